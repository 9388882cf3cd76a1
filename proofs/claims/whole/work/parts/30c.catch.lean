-- ===== 30c: work; the law's at and work, that catch =====
theorem dec1 (k : Nat) : nI k + Int32.ofInt (-1) = if k = 0 then -1 else nI (k - 1) := by
  cases k with
  | zero => decide
  | succ n =>
    rw [if_neg (by omega), Nat.add_sub_cancel]
    exact pk_m1 n
theorem sp_workX {T : TS} {σ : Sg} (hX : InvX T σ) (hW : WF T) (hKd : KdOK T) (x y : Int32) : SpX yX2_work cX2_work 6 (some .int) 6 [.inr 0, .inl x, .inl y] σ (fun r σ' => okWork T x y = true ∧ r = some (.inl (aWork T x.toNatClampNeg y.toNatClampNeg)) ∧ InvX T σ' ∧ frXo σ σ') (fun σ' => okWork T x y = false ∧ InvX T σ' ∧ frXo σ σ') := by
  have h4 := hW.2.2.2.1
  refine SpX.intro rfl (Nat.le_of_ble_eq_true rfl) (by decide) (fun Γ c r => ?_)
  show J Γ 0 [some (.inr 0), some (.inl x), some (.inl y), none, none, none] [] σ
  refine j_aload_n c dX2_work_0 rfl ?_
  refine j_iload_n c dX2_work_1 rfl ?_
  refine j_iload_n c dX2_work_2 rfl ?_
  refine j_callV1 c kw_X2_96 (sp_hasCall hX hW x y) dX2_work_3 rfl rfl (by decide) (Nat.le_of_ble_eq_true rfl) (Nat.le_of_ble_eq_true rfl) rfl rfl ?_
  refine j_if_ne c 19 dX2_work_6 (by decide) (fun e => ?_) (fun e => ?_)
  · have e2 := bI_nz e
    obtain ⟨i, z, hi, rfl, rfl, hv⟩ := isC_of h4 e2
    have hpl := hW.2.2.2.2.1 i hi
    have hz := vcall_lt hv hpl.2
    have hok : okWork T (nI i) (nI z) = !(tch T i z).isEmpty := by unfold okWork; rw [e2, nI_clamp (n := i) (by omega), nI_clamp (n := z) (by omega)]; rfl
    rw [nI_clamp (n := i) (by omega), nI_clamp (n := z) (by omega)] at r
    have hp : FnP (15 + 7 * i) := FnP.of (by omega)
    have hl : (tch T i z).length ≤ 12 := chn_len
    refine j_aload_n c dX2_work_19 rfl ?_
    refine j_getR c fl_X2_18 dX2_work_20 (Nat.le_of_ble_eq_true rfl) rfl rfl ?_
    refine j_iload_n c dX2_work_23 rfl ?_
    refine j_aald c dX2_work_24 (Nat.le_of_ble_eq_true rfl) rfl rfl (by omega) (by decide) ?_
    refine j_astore_n c dX2_work_25 (Nat.le_of_ble_eq_true rfl) rfl ?_
    refine j_aload_n c dX2_work_26 rfl ?_
    refine j_aload_n c dX2_work_27 rfl ?_
    refine j_iload_n c dX2_work_28 rfl ?_
    refine j_callV c kw_X2_193 (sp_layChain hX hW hi hv) dX2_work_29 rfl rfl (by decide) (Nat.le_of_ble_eq_true rfl) (Nat.le_of_ble_eq_true rfl) rfl rfl ?_
    rintro _ σ1 ⟨⟨w, rfl, _⟩, g8, g12, gq, g0⟩
    have hX1 : InvX T σ1 := hX.keep h4 (fun q x1 x2 _ _ => gq q x1 x2) g0
    have hfr : frXo σ σ1 := fun q hq => gq q (by omega) (by omega)
    refine j_pop c dX2_work_32 ?_
    refine j_aload_n c dX2_work_33 rfl ?_
    refine j_getI c fl_X2_44 dX2_work_34 (Nat.le_of_ble_eq_true rfl) rfl rfl ?_
    rw [g8]
    by_cases hl0 : (tch T i z).length = 0
    · rw [hl0]
      refine j_if_ne c 50 dX2_work_37 (by decide) (fun h_9 => absurd (by rfl) h_9) (fun _ => ?_)
      exact j_throw (is := 198) (text := "the chain has no method") c r (by decide) dX2_work_40 dX2_work_43 dX2_work_44 dX2_work_46 dX2_work_49 ⟨by rw [hok, List.length_eq_zero_iff.mp hl0]; rfl, hX1, hfr⟩
    · have hok2 : okWork T (nI i) (nI z) = true := by
        rw [hok]
        cases hh : tch T i z with
        | nil => rw [hh] at hl0; exact absurd rfl hl0
        | cons a r => rfl
      refine j_if_ne c 50 dX2_work_37 (by decide) (fun _ => ?_) (fun h_9 => absurd h_9 (fun h => hl0 ((nI_eq (b := 0) (by omega) (by decide)).mp h)))
      refine j_iconst c (nI 0) dX2_work_50 (by decide) ?_
      refine j_istore c dX2_work_51 (Nat.le_of_ble_eq_true rfl) rfl ?_
      refine j_aload_n c dX2_work_53 rfl ?_
      refine j_getI c fl_X2_44 dX2_work_54 (Nat.le_of_ble_eq_true rfl) rfl rfl ?_
      rw [g8]
      refine j_iconst c (nI 1) dX2_work_57 (by decide) ?_
      refine j_isub c _ dX2_work_58 (by first | exact pk_sub (by omega) | rfl) ?_
      refine j_istore c dX2_work_59 (Nat.le_of_ble_eq_true rfl) rfl ?_
      have key : ∀ k, k ≤ (tch T i z).length → J Γ 61 [some (.inr 0), some (.inl (nI i)), some (.inl (nI z)), some (.inr (15 + 7 * i)), some (.inl (wrk (tkd T i) (tvl T i) ((tch T i z).drop k))), some (.inl (if k = 0 then -1 else nI (k - 1)))] [] σ1 := by
        intro k
        induction k with
        | zero =>
          intro _
          rw [if_pos rfl]
          refine j_iload c dX2_work_61 rfl ?_
          refine j_if_lt c 87 dX2_work_63 (by decide) (fun _ => ?_) (fun h_9 => absurd (by decide) h_9)
          refine j_iload c dX2_work_87 rfl ?_
          exact j_iretX c r dX2_work_89 rfl ⟨hok2, by rw [List.drop_zero]; rfl, hX1, hfr⟩
        | succ k ih =>
          intro hk
          obtain ⟨m, hm⟩ : ∃ m, (tch T i z)[k]? = some m := ⟨_, List.getElem?_eq_getElem (by omega)⟩
          have hmm := chn_mem (List.mem_of_getElem? hm)
          have hm12 := appB_12 hW hi hmm.2
          obtain ⟨t, et, _⟩ := appB_some hmm.2
          obtain ⟨j, hj, hkd⟩ := hKd i m t hi et
          have hkv := hX1.2.2.2.2.2.2.2.2.1 i m t hi et
          have hdr : (tch T i z).drop k = m :: (tch T i z).drop (k + 1) := by
            have hkl : k < (tch T i z).length := by omega
            rw [List.drop_eq_getElem_cons hkl]
            congr 1
            rw [List.getElem?_eq_getElem hkl] at hm
            exact Option.some.inj hm
          have ih2 := ih (by omega)
          rw [hdr] at ih2
          rw [if_neg (by omega), Nat.add_sub_cancel]
          refine j_iload c dX2_work_61 rfl ?_
          refine j_if_lt c 87 dX2_work_63 (by decide) (fun h_9 => absurd h_9 (nI_pos (by omega))) (fun _ => ?_)
          refine j_aload_n c dX2_work_66 rfl ?_
          refine j_aload_n c dX2_work_67 rfl ?_
          refine j_getR c fl_X2_40 dX2_work_68 (Nat.le_of_ble_eq_true rfl) rfl rfl ?_
          refine j_iload c dX2_work_71 rfl ?_
          refine j_iald c dX2_work_73 (Nat.le_of_ble_eq_true rfl) rfl rfl (by omega) (by decide) ?_
          rw [g12 k m hm]
          refine j_iload c dX2_work_74 rfl ?_
          refine j_callV1 c kw_X2_200 (sp_workOut hp hm12 _ hj (hkv.1.trans hkd)) dX2_work_76 rfl rfl (by decide) (Nat.le_of_ble_eq_true rfl) hp.lt0 (lf0 hp) rfl ?_
          refine j_istore c dX2_work_79 (Nat.le_of_ble_eq_true rfl) rfl ?_
          refine j_iinc c _ dX2_work_81 rfl (dec1 k) rfl ?_
          refine j_goto c 61 dX2_work_84 (by decide) ?_
          rw [hkv.2]
          have hw : wrk (tkd T i) (tvl T i) (m :: (tch T i z).drop (k + 1)) = wv (nI j) (tvl T i m) (wrk (tkd T i) (tvl T i) ((tch T i z).drop (k + 1))) := by
            show wv (tkd T i m) _ _ = _
            rw [hkd]
          rw [hw] at ih2
          exact ih2
      have k0 := key (tch T i z).length (Nat.le_refl _)
      rw [List.drop_length, if_neg hl0] at k0
      exact k0
  · exact j_throw (is := 196) (text := "no such call") c r (by decide) dX2_work_9 dX2_work_12 dX2_work_13 dX2_work_15 dX2_work_18 ⟨by unfold okWork; rw [bI_z e]; rfl, hX, frXo.rfl' σ⟩
-- calls of such a method, caught
theorem Tx.narrow {A B : Nat → Prop} {U : State} {H : Heap} (h : Tx A U H) (hAB : ∀ q, B q → A q) : Tx B U H := ⟨h.1.narrow hAB, h.2.1.narrow hAB, h.2.2⟩
def bmp (Γ : Gm) : Gm := match Γ with
  | (p, l, e, R, s, m, args, below, meth, c, D, K, ad, A, nL, cells, slots, Q) => (p, l, e, R, s, m, args, below, meth, c, D, K, ad, A, nL, cells + 1, slots + 6, Q)
def RmX (Γ : Gm) : Prop := match Γ with
  | (_, l, _, R, s, _, _, _, _, _, _, _, _, A, _, cells, slots, _) => l.stackTraces = false ∧ Tx A s s.heap ∧ cells + 1 ≤ R.cells ∧ slots + 6 ≤ R.slots
theorem Cx.bmp {Γ : Gm} {own : String} {cc : ByteArray} {d : Nat} (hc : Cx Γ own cc d) (hr : RmX Γ) : Cx (bmp Γ) own cc d := by
  obtain ⟨p, l, e, R, s, m, args, below, meth, c, D, K, ad, A, nL, cells, slots, Q⟩ := Γ
  obtain ⟨hx, hb, hml, hown, hts, hK, hA, hfr, hlo, hce, hsl⟩ := hc
  obtain ⟨q1, q2, q4, q5⟩ := hr
  exact ⟨hx, hb, hml, hown, hts, hK, hA, hfr, hlo, q4, q5⟩
theorem KTx.blind {D : va_G} {K : CK} {ad : Nat → Nat} {σ : Sg} {av : List Value} : FrameBlind (va_Pc av (fun U => va_P D vwCl (wld K ad σ) U.heap ∧ Kx D K ad U ∧ Tx (adS ad) U U.heap)) := fun _ U g mk q => by
  obtain ⟨q0, qP, ⟨qK, qN, qI⟩, qT⟩ := q
  exact ⟨q0, qP, ⟨va_K.moved (u := U) (Vm.Alike.refl U.vm) qK, Nst.same (u := U) rfl qN, qI⟩, Tx.same (s := U) rfl qT⟩
theorem lvl_drop {ad : Nat → Nat} {ls : Array Slot} {nL i x : Nat} {L : List (Option PV)} (h : lv_has ls nL ((i, Value.ref x) :: (lvl ad 0 L).filter (fun q => !(q.1 == i) && !(q.1 + 1 == i && q.2.category == 2)))) : lv_has ls nL (lvl ad 0 (L.set i none)) := by
  refine ⟨h.1, h.2.1, fun q hq => h.2.2 q ?_⟩
  obtain ⟨j, w, rfl, h2⟩ := lvl_of hq
  rw [Nat.zero_add]
  have hj : j ≠ i := fun hj => by
    subst hj
    have hl : j < (L.set j none).length := (List.getElem?_eq_some_iff.mp h2).1
    rw [List.length_set] at hl
    rw [List.getElem?_set_self hl] at h2
    cases h2
  rw [List.getElem?_set_ne (Ne.symm hj)] at h2
  have h3 := lvl_mem (ad := ad) (b := 0) h2
  rw [Nat.zero_add] at h3
  refine List.mem_cons_of_mem _ (List.mem_filter.mpr ⟨h3, ?_⟩)
  simp [hj, lvv_cat]
theorem jw_callX {p : Program} {l : Launch} {e : Env} {R : Room} {s : State} {m : MethodId} {args : Array Value} {below : List Frame} {meth : Method} {c : Code} {H : Heap} {locs : List Loc} {cells slots : Nat} {Q : State → Prop} {D : va_G} {K : CK} {ad : Nat → Nat} {A : Nat → Prop} {post : Option PV → Sg → Prop} {px : Sg → Prop} {a : Array Value} {pc : Nat} {ls : Array Slot} {st0 : List Value} {rest : List PV}
    (hr : vx_Run p l e R s m args below meth c H locs cells slots 1 6 (F0 m pc ls st0) (rest.map (lvv ad)) (Qp D K ad post a) (XQ D K ad px) (adS ad)) (hS : va_S A s.heap H locs) (hA : ∀ i, i < 68 → A (ad i))
    (kk : ∀ (r : Option PV) (σ' : Sg), post r σ' → ∀ (H1 : Heap) (locs1 : List Loc), va_P D vwCl (wld K ad σ') H1 → va_S A s.heap H1 locs1 → W p l e R s m args below meth c H1 locs1 (cells + 1) (slots + 6) Q (F0 m (pc + 3) ls ((r.toList ++ rest).map (lvv ad))))
    (kx : ∀ (σ' : Sg), px σ' → ∀ (H1 : Heap) (locs1 : List Loc) (q9 : Addr) (ce : Cell), va_P D vwCl (wld K ad σ') H1 → va_S A s.heap H1 locs1 → H1[q9]? = some ce → ce.vm = .none → s.vm.findClass NE = some ce.cls → vx_W p l e R s m args below meth c H1 locs1 (cells + 1) (slots + 6) Q (F0 m pc ls (rest.map (lvv ad))) q9) : W p l e R s m args below meth c H locs cells slots Q (F0 m pc ls st0) := by
  intro T hT X
  have hAS : ∀ q, adS ad q → A q := fun q hq => by obtain ⟨i, hi, rfl⟩ := hq; exact hA i hi
  rcases hr T hT X with ⟨v, st₀, t, T', Lx, h0, X', hL, e1, e2, ⟨⟨r, σ', hv, hp, hb⟩, hz, hk⟩, stp⟩ | ⟨q9, st₀, t, T', Lx, E, ce, h0, X', hL, e1, e2, ⟨hE, ⟨σ', hp, hb⟩, hz, hk⟩, hce, hcv, hcl, stp⟩
  · cases hv
    rw [h0] at hz hk
    obtain ⟨t2, a1, b1⟩ := kk r σ' hp T'.heap (locs ++ Lx) (by rw [e1]; exact hb)
      ⟨Nat.le_trans hS.1 (by rw [e1]; exact hz), fun q h1 h2 => by rw [e1, hk q (Nat.lt_of_lt_of_le h1 hS.1) (fun z => h2 (hAS q z))]; exact hS.2.1 q h1 h2, fun q hq => by
        rcases List.mem_append.mp hq with h | h
        · exact hS.2.2 q h
        · exact hAS _ (hL q h)⟩ T' rfl X'
    refine ⟨t2, stp t2 ?_, b1⟩
    have hst : (Option.map (lvv ad) r).toList ++ rest.map (lvv ad) = (r.toList ++ rest).map (lvv ad) := by cases r <;> simp
    show Steps _ _ _ (T'.setTop { F0 m pc ls st0 with pc := pc + 3, stack := (Option.map (lvv ad) r).toList ++ rest.map (lvv ad) }) _
    rw [hst]
    exact a1
  · subst hE
    rw [h0] at hz hk
    obtain ⟨t2, a1, b1⟩ := kx σ' hp T'.heap (locs ++ Lx) q9 ce (by rw [e1]; exact hb)
      ⟨Nat.le_trans hS.1 (by rw [e1]; exact hz), fun q h1 h2 => by rw [e1, hk q (Nat.lt_of_lt_of_le h1 hS.1) (fun z => h2 (hAS q z))]; exact hS.2.1 q h1 h2, fun q hq => by
        rcases List.mem_append.mp hq with h | h
        · exact hS.2.2 q h
        · exact hAS _ (hL q h)⟩ (by rw [e1]; exact hce) hcv hcl T' rfl X'
    exact ⟨t2, stp.trans a1, b1⟩
theorem cl13 : Cond.classLink RL 13 NE ∈ TT := TT_in (by decide +kernel) (by decide +kernel)
def TbX (Γ : Gm) (hh : List (Nat × Nat × Nat × Nat)) : Prop := match Γ with
  | (_, _, _, _, _, _, _, _, _, c, _, _, _, _, _, _, _, _) => c.exceptionTable.toList = tableOf hh
section Catch
variable {Γ : Gm} {cc : ByteArray} {d pc : Nat} {L : List (Option PV)} {σ : Sg}
/-- a call that may throw, in a method that catches it and keeps it in a local -/
theorem j_callX (hc : Cx Γ RL cc d) (hr : RmX Γ) {to h k : Nat} (ht : TbX Γ [(0, to, h, 13)]) {y : MethodName} {bytes : ByteArray} {maxL n index d' q ci : Nat} {ret : Option FieldType} {as rest st : List PV} {post : Option PV → Sg → Prop} {px : Sg → Prop} {fs : List (Option Nat)} {T : u_T} {N : Nat} (hw : Cw 0 RL index y bytes maxL ret n) (hM : SpX y bytes maxL ret d' (.inr q :: as) σ post px) (hd : decode cc pc = .ok (.invokevirtual index, 3)) (hda : decode cc h = .ok (.astore k, 2)) (hcv : covers ⟨0, to, h, 13⟩ pc = true) (hk : k < L.length) (hst : st = as.reverse ++ .inr q :: rest) (hn : as.length = n) (hdd : d' + 1 ≤ d) (hrl : rest.length ≤ 8) (hq : q < 68) (hy : lay q = .inl (ci, fs)) (hci : vwCl[ci]? = some (y.cls, T, N))
    (n1 : ∀ r σ', post r σ' → J (bmp Γ) (pc + 3) L (r.toList ++ rest) σ') (n2 : ∀ σ', px σ' → J (bmp Γ) (h + 2) (L.set k none) [] σ') : J Γ pc L st σ := by
  obtain ⟨⟨w0, w1, w2⟩, w4, w3, w5, w6⟩ := hw
  obtain ⟨p, l, e, R, s, m, args, below, meth, c, D, K, ad, A, nL, cells, slots, Q⟩ := Γ
  obtain ⟨hx, hb, hml, hown, hts, hK, hA, hfr, hlo, hce, hsl⟩ := hc
  obtain ⟨q1, q2, q4, q5⟩ := hr
  have hAS : ∀ q, adS ad q → A q := fun q hq => by obtain ⟨i, hi, rfl⟩ := hq; exact hA i hi
  intro hL H locs ls hP hS hl
  have hgood : GoodIn TT (Cond.code y bytes maxL ret :: TT) := TT_good (fun w hw => by
    rcases List.mem_cons.mp hw with rfl | h
    · exact w3
    · exact h) (fun w h => h)
  have hroom : d' + 1 ≤ R.frames ∧ 8 + (maxL + 11) + 38 * d' ≤ R.locals := ⟨by omega, by omega⟩
  subst hst
  have hwq : (wld K ad σ)[q]? = some (ad q, .inr (ci, fv ad σ q 0 fs)) := by rw [wld_get hq, cel_obj hy]
  have hrun := vx_runV (C := y.cls) (As := as.map (lvv ad)) (rest := rest.map (lvv ad)) (b := ad q) (g := F0 m pc ls ((as.reverse ++ .inr q :: rest).map (lvv ad))) (H := H) (locs := locs) (cells := cells) (slots := slots) (below := below) (meth := meth) (e := e) ⟨hx, hb, hml, hown, hts⟩ (hM l D K ad q1) ⟨callB_of n hts hgood rfl rfl rfl (hts _ w4) (hts _ w0) w5 hroom, hts _ w1, hts _ w2⟩
    ⟨KTx.blind, va_recv hK.1 hP hci hwq, fun U hU hW => ⟨rfl, by rw [hU]; exact hP, hK.warm hW, by rw [hU]; exact ((q2.kept hS.2.1).narrow hAS).warm hW⟩⟩ rfl (by rw [List.length_map]; exact hn) hl.1 (by simp [lvv]) (lv_room (by rw [cat_sum]; exact hrl)) hd ⟨q4, q5⟩
  refine jw_callX hrun hS hA (fun r σ' hp H1 locs1 hP1 hS1 => n1 r σ' hp hL H1 locs1 ls hP1 hS1 hl) (fun σ' hp H1 locs1 q9 ce hP1 hS1 hce9 hcv9 hcl9 => ?_)
  refine vx_catch (own := RL) (name := NE) (E := NE) hown [] ⟨0, to, h, 13⟩ [] ht (fun z hz => by cases hz) hcv (show (13 : Nat) ≠ 0 by decide) (hts _ cl13) (va_Nw.use rfl (q2.2.2.2 _ (by simp [xBad]))) hce9 hcv9 hcl9 ?_
  exact lv_astore hx hb hda hl (by rw [← hL]; exact hk) rfl (fun ls' h' => n2 σ' hp (by rw [List.length_set]; exact hL) H1 locs1 ls' hP1 hS1 (lvl_drop h'))
theorem j_i2l_last {own : String} (hc : Cx Γ own cc d) {v : Int32} {st : List PV} (h1 : decode cc pc = .ok (.i2l, 1)) (h2 : decode cc (pc + 1) = .ok (.lastore, 1)) (n1 : J Γ (pc + 2) L st (s2 σ 67 0 v)) : J Γ pc L (.inl v :: .inl (nI 0) :: .inr 67 :: st) σ := by
  obtain ⟨p, l, e, R, s, m, args, below, meth, c, D, K, ad, A, nL, cells, slots, Q⟩ := Γ
  obtain ⟨hx, hb, hml, hown, hts, hK, hA, hfr, hlo, hce, hsl⟩ := hc
  intro hL H locs ls hP hS hl
  have hy : lay 67 = .inr (3, 1) := rfl
  have hw : (wld K ad σ)[67]? = some (ad 67, .inl (K.2.2.2, 1, .inr (.inl (fun j => (σ 67 j).toInt64)))) := by rw [wld_get (by decide), cel_long hy]
  have hD : va_D A (wld K ad σ) := wld_D hK.2.2 hA
  have he : (wld K ad σ).set 67 (ad 67, .inl (K.2.2.2, 1, .inr (.inl (vp_updL (fun j => (σ 67 j).toInt64) (nI 0).toNatClampNeg v.toInt64)))) = wld K ad (s2 σ 67 0 v) := wld_set (by
    rw [cel_long hy, nI_clamp (n := 0) (by decide)]
    congr 5
    funext j
    by_cases hj : j = 0
    · subst hj; simp [vp_updL, s2, upd]
    · simp [vp_updL, s2, upd, hj]) (fun j hj => by simp [s2, hj])
  exact lv_i2l hx hb h1 rfl (va_last hx hb hK.1 hP hD hS 67 3 hw rfl (vp_in_nI (by decide) (by decide)) h2 (fun H1 locs1 hP1 _ hS1 => n1 hL H1 locs1 ls (by rw [he] at hP1; exact hP1) hS1 hl))
end Catch
