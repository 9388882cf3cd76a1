-- ===== 20m: the class: of, change, settle =====
theorem ansI_m1 {ls : Nat → List Nat} {g : Nat → Option Nat} {b c : Nat} : ansI ls g b c = -1 ↔ ∀ m, m < 13 → appB ls g c m = false := by
  unfold ansI
  constructor
  · intro h
    rcases fstI_cases (appB ls g c) (befB ls g b c) with ⟨_, h1⟩ | ⟨h1, _⟩ | ⟨m, hm, h1, _⟩
    · exact h1
    · rw [h1] at h; exact absurd h (by decide)
    · rw [h1] at h; exact absurd h (nI_ne1 (by omega))
  · intro h
    exact fstI_no h
theorem gap_rule {T : TS} {f b : Nat} : kth (fun c => decide (rowA T f none b c = -1) && topB (rowA T f none b) (tls T) (16 ^ tpl T f) c) (16 ^ tpl T f) (-1) = kth (topP T f (-1)) (16 ^ tpl T f) (-1) := by
  have hd : ∀ c, decide (rowA T f none b c = -1) = decide (rowA T f none 0 c = -1) := fun c => by
    rw [row_a (by decide), row_a (by decide)]
    congr 1
    rw [decide_eq_decide, ansI_m1, ansI_m1]
  refine kth_congr (fun c _ => ?_)
  unfold topP
  rw [hd c]
  cases h : decide (rowA T f none 0 c = -1) with
  | false => rfl
  | true =>
    have h0 : rowA T f none 0 c = -1 := by simpa using h
    have h1 : rowA T f none b c = -1 := by have := hd c; rw [h] at this; simpa using this
    simp only [Bool.true_and]
    unfold topB
    rw [h0, h1]
    simp only [hd]
theorem sp_ofX {T : TS} {σ : Sg} (hX : InvX T σ) (hW : WF T) (x w : Int32) : Sp yX2_of cX2_of 4 (some .int) 6 [.inr 0, .inl x, .inl w] σ (nX T σ (aOfI T x w)) := by
  have h4 := hW.2.2.2.1
  refine Sp.intro rfl (Nat.le_of_ble_eq_true rfl) (fun Γ c r => ?_)
  show J Γ 0 [some (.inr 0), some (.inl x), some (.inl w), none] [] σ
  refine j_aload_n c dX2_of_0 rfl ?_
  refine j_iload_n c dX2_of_1 rfl ?_
  refine j_callV1 c kw_X2_144 (sp_hasFunction σ x (tnf T) hX.2.1 h4) dX2_of_2 rfl rfl (by decide) (Nat.le_of_ble_eq_true rfl) (Nat.le_of_ble_eq_true rfl) rfl rfl ?_
  refine j_if_ne c 10 dX2_of_5 (by decide) (fun e => ?_) (fun e => ?_)
  · have e2 := bI_nz e
    obtain ⟨i, hi, hi2, rfl⟩ := isN_of e2
    have hp : FnP (15 + 7 * i) := FnP.of (by omega)
    have hpl := hW.2.2.2.2.1 i hi
    have hF := hX.2.2.2.2.2.1 i hi
    refine j_aload_n c dX2_of_10 rfl ?_
    refine j_getR c fl_X2_18 dX2_of_11 (Nat.le_of_ble_eq_true rfl) rfl rfl ?_
    refine j_iload_n c dX2_of_14 rfl ?_
    refine j_aald c dX2_of_15 (Nat.le_of_ble_eq_true rfl) rfl rfl (by omega) (by decide) ?_
    refine j_astore_n c dX2_of_16 (Nat.le_of_ble_eq_true rfl) rfl ?_
    refine j_iload_n c dX2_of_17 rfl ?_
    by_cases hw : isN w 10 = true
    · obtain ⟨k, hk7, hk2, rfl⟩ := isN_of hw
      have hr : aOfI T (nI i) (nI k) = aOf T i k := by unfold aOfI; rw [e2, hw, nI_clamp hi2, nI_clamp hk2]; rfl
      rw [hr] at r
      rcases (show k = 0 ∨ k = 1 ∨ k = 2 ∨ k = 3 ∨ k = 4 ∨ k = 5 ∨ k = 6 ∨ k = 7 ∨ k = 8 ∨ k = 9 by omega) with rfl | rfl | rfl | rfl | rfl | rfl | rfl | rfl | rfl | rfl
      · refine j_tableIn (off := 54) c 72 dX2_of_18 (by decide) (by decide) (by decide) (by decide) ?_
        refine j_aload_n c dX2_of_72 rfl ?_
        refine j_getI c fl_X2_93 dX2_of_73 hp.lt0 (lf0 hp) rfl ?_
        exact j_iret c r dX2_of_76 rfl ⟨by rw [hF.1]; rfl, hX, frXo.rfl' σ⟩
      · refine j_tableIn (off := 59) c 77 dX2_of_18 (by decide) (by decide) (by decide) (by decide) ?_
        refine j_aload_n c dX2_of_77 rfl ?_
        refine j_getI c fl_X2_126 dX2_of_78 hp.lt0 (lf0 hp) rfl ?_
        refine j_iret c r dX2_of_81 rfl ⟨?_, hX, frXo.rfl' σ⟩
        congr 2
        apply bt_ext
        intro m hm
        show _ = bt (mkS (fun m => (ttg T i m).isSome) 12) m
        rw [hF.2.1 m hm, bt_mkS _ (by decide)]
        by_cases h : m < 12
        · simp [h]
        · cases ht : ttg T i m with
          | none => simp
          | some t => exact absurd (hW.2.2.2.2.2.1 i m t hi ht).1 h
      · refine j_tableIn (off := 64) c 82 dX2_of_18 (by decide) (by decide) (by decide) (by decide) ?_
        refine j_aload_n c dX2_of_82 rfl ?_
        refine j_aload_n c dX2_of_83 rfl ?_
        refine j_callV1 c kw_X2_147 (sp_callCount hp hF.1 hX.1.1 hpl.2) dX2_of_84 rfl rfl (by decide) (Nat.le_of_ble_eq_true rfl) (Nat.le_of_ble_eq_true rfl) rfl rfl ?_
        exact j_iret c r dX2_of_87 rfl ⟨rfl, hX, frXo.rfl' σ⟩
      · refine j_tableIn (off := 70) c 88 dX2_of_18 (by decide) (by decide) (by decide) (by decide) ?_
        refine j_aload_n c dX2_of_88 rfl ?_
        refine j_iload_n c dX2_of_89 rfl ?_
        refine j_iconst c (-1) dX2_of_90 (by decide) ?_
        refine j_callV c kw_X2_151 (sp_callsAnswered hX hW hi (-1) (by decide)) dX2_of_91 rfl rfl (by decide) (Nat.le_of_ble_eq_true rfl) (Nat.le_of_ble_eq_true rfl) rfl rfl ?_
        rintro _ σ1 ⟨rfl, hP⟩
        exact j_iret c r dX2_of_94 rfl ⟨rfl, hP.1, hP.fr⟩
      · refine j_tableIn (off := 77) c 95 dX2_of_18 (by decide) (by decide) (by decide) (by decide) ?_
        refine j_aload_n c dX2_of_95 rfl ?_
        refine j_aload_n c dX2_of_96 rfl ?_
        refine j_callV1 c kw_X2_154 (sp_ambiguousCalls hX hW hi) dX2_of_97 rfl rfl (by decide) (Nat.le_of_ble_eq_true rfl) (Nat.le_of_ble_eq_true rfl) rfl rfl ?_
        exact j_iret c r dX2_of_100 rfl ⟨rfl, hX, frXo.rfl' σ⟩
      · refine j_tableIn (off := 83) c 101 dX2_of_18 (by decide) (by decide) (by decide) (by decide) ?_
        refine j_aload_n c dX2_of_101 rfl ?_
        refine j_aload_n c dX2_of_102 rfl ?_
        refine j_iconst c (nI 0) dX2_of_103 (by decide) ?_
        refine j_iconst c (-1) dX2_of_104 (by decide) ?_
        refine j_callV c kw_X2_157 (sp_greatestMarked hX hW hi false (-1)) dX2_of_105 rfl rfl (by decide) (Nat.le_of_ble_eq_true rfl) (Nat.le_of_ble_eq_true rfl) rfl rfl ?_
        rintro _ σ1 ⟨rfl, f1⟩
        exact j_iret c r dX2_of_108 rfl ⟨rfl, hX.keep h4 (fun q _ _ x3 _ => f1 q x3) (fun j _ => by rw [f1 0 (by decide)]), fun q hq => f1 q (by omega)⟩
      · refine j_tableIn (off := 91) c 109 dX2_of_18 (by decide) (by decide) (by decide) (by decide) ?_
        refine j_aload_n c dX2_of_109 rfl ?_
        refine j_aload_n c dX2_of_110 rfl ?_
        refine j_iconst c (nI 1) dX2_of_111 (by decide) ?_
        refine j_iconst c (-1) dX2_of_112 (by decide) ?_
        refine j_callV c kw_X2_157 (sp_greatestMarked hX hW hi true (-1)) dX2_of_113 rfl rfl (by decide) (Nat.le_of_ble_eq_true rfl) (Nat.le_of_ble_eq_true rfl) rfl rfl ?_
        rintro _ σ1 ⟨rfl, f1⟩
        exact j_iret c r dX2_of_116 rfl ⟨by rw [show aOf T i 6 = kth (topP T i (-1)) (16 ^ tpl T i) (-1) from gap_rule]; rfl, hX.keep h4 (fun q _ _ x3 _ => f1 q x3) (fun j _ => by rw [f1 0 (by decide)]), fun q hq => f1 q (by omega)⟩
      · refine j_tableIn (off := 99) c 117 dX2_of_18 (by decide) (by decide) (by decide) (by decide) ?_
        refine j_aload_n c dX2_of_117 rfl ?_
        refine j_iload_n c dX2_of_118 rfl ?_
        refine j_callV c kw_X2_161 (sp_tableSize hX hW hi) dX2_of_119 rfl rfl (by decide) (Nat.le_of_ble_eq_true rfl) (Nat.le_of_ble_eq_true rfl) rfl rfl ?_
        rintro _ σ1 ⟨rfl, hP⟩
        exact j_iret c r dX2_of_122 rfl ⟨rfl, hP.1, hP.fr⟩
      · refine j_tableIn (off := 105) c 123 dX2_of_18 (by decide) (by decide) (by decide) (by decide) ?_
        refine j_aload_n c dX2_of_123 rfl ?_
        refine j_iload_n c dX2_of_124 rfl ?_
        refine j_callV c kw_X2_164 (sp_idleMethods hX hW hi) dX2_of_125 rfl rfl (by decide) (Nat.le_of_ble_eq_true rfl) (Nat.le_of_ble_eq_true rfl) rfl rfl ?_
        rintro _ σ1 ⟨rfl, hP⟩
        exact j_iret c r dX2_of_128 rfl ⟨rfl, hP.1, hP.fr⟩
      · refine j_tableIn (off := 111) c 129 dX2_of_18 (by decide) (by decide) (by decide) (by decide) ?_
        refine j_aload_n c dX2_of_129 rfl ?_
        refine j_getI c fl_X2_135 dX2_of_130 hp.lt0 (lf0 hp) rfl ?_
        exact j_iret c r dX2_of_133 rfl ⟨by rw [(hX.2.2.2.2.2.2.2.1 i (by omega)).1]; rfl, hX, frXo.rfl' σ⟩
    · refine j_tableOut c 134 dX2_of_18 (by simp [isN] at hw; omega) (by decide) ?_
      refine j_iconst c (-1) dX2_of_134 (by decide) ?_
      have hw2 : isN w 10 = false := by simpa using hw
      exact j_iret c r dX2_of_135 rfl ⟨by simp [aOfI, hw2], hX, frXo.rfl' σ⟩
  · refine j_iconst c (-1) dX2_of_8 (by decide) ?_
    exact j_iret c r dX2_of_9 rfl ⟨by simp [aOfI, bI_z e], hX, frXo.rfl' σ⟩
-- one method more, under two numbers
def befT (ls : Nat → List Nat) (ru c a b : Nat) : Bool := if ru = 0 then le3 ls a b else ahd ls c a b
theorem befB_T {ls : Nat → List Nat} {g : Nat → Option Nat} {ru c m o a b : Nat} (h1 : g m = some a) (h2 : g o = some b) : befB ls g ru c m o = befT ls ru c a b := by
  unfold befB befT
  rw [h1, h2]
theorem appN {ls : Nat → List Nat} {g : Nat → Option Nat} {N w c : Nat} (hN : N < 13) (hw : le3 ls c w = true) : appB ls (va_up g N (some w)) c N = true := by
  unfold appB
  rw [vu_at]
  simp [hN, hw]
theorem appM {ls : Nat → List Nat} {g : Nat → Option Nat} {N w c m : Nat} (h : m ≠ N) : appB ls (va_up g N (some w)) c m = appB ls g c m := by
  unfold appB
  rw [vu_ne h]
theorem app_no {ls : Nat → List Nat} {g : Nat → Option Nat} {c m : Nat} (h : g m = none) : appB ls g c m = false := by
  unfold appB
  rw [h]
theorem fstN_m {ls : Nat → List Nat} {g : Nat → Option Nat} {ru N w c m a : Nat} (hN : N < 13) (hg : g N = none) (hw : le3 ls c w = true) (hm : m ≠ N) (ha : g m = some a) : fstP (appB ls (va_up g N (some w)) c) (befB ls (va_up g N (some w)) ru c) m = true ↔ (appB ls g c m = true ∧ (∀ o b, o < 13 → appB ls g c o = true → g o = some b → o ≠ m → befT ls ru c a b = true) ∧ befT ls ru c a w = true) := by
  have hma : va_up g N (some w) m = some a := by rw [vu_ne hm]; exact ha
  unfold fstP
  rw [Bool.and_eq_true, appM hm, allU]
  constructor
  · rintro ⟨h1, h2⟩
    refine ⟨h1, fun o b ho hs hb hom => ?_, ?_⟩
    · have hoN : o ≠ N := fun e => by subst e; rw [hg] at hb; cases hb
      have h3 := h2 o ho
      rw [appM hoN, hs, befB_T hma (show va_up g N (some w) o = some b by rw [vu_ne hoN]; exact hb)] at h3
      simpa [hom] using h3
    · have h3 := h2 N hN
      rw [appN hN hw, befB_T hma (vu_at _ _ _)] at h3
      simpa [Ne.symm hm] using h3
  · rintro ⟨h1, h2, h3⟩
    refine ⟨h1, fun o ho => ?_⟩
    by_cases e : o = N
    · subst e
      rw [befB_T hma (vu_at _ _ _), h3]
      simp
    · rw [appM e]
      cases hs : appB ls g c o with
      | false => rfl
      | true =>
        obtain ⟨b, hb, _⟩ := appB_some hs
        by_cases hom : o = m
        · simp [hom]
        · rw [befB_T hma (show va_up g N (some w) o = some b by rw [vu_ne e]; exact hb), h2 o b ho hs hb hom]
          simp
theorem fstN_N {ls : Nat → List Nat} {g : Nat → Option Nat} {ru N w c : Nat} (hN : N < 13) (hg : g N = none) (hw : le3 ls c w = true) : fstP (appB ls (va_up g N (some w)) c) (befB ls (va_up g N (some w)) ru c) N = true ↔ ∀ o b, o < 13 → appB ls g c o = true → g o = some b → befT ls ru c w b = true := by
  have hma : va_up g N (some w) N = some w := vu_at _ _ _
  unfold fstP
  rw [Bool.and_eq_true, allU]
  constructor
  · rintro ⟨_, h2⟩ o b ho hs hb
    have hoN : o ≠ N := fun e => by subst e; rw [hg] at hb; cases hb
    have h3 := h2 o ho
    rw [appM hoN, hs, befB_T hma (show va_up g N (some w) o = some b by rw [vu_ne hoN]; exact hb)] at h3
    simpa [hoN] using h3
  · intro h2
    refine ⟨appN hN hw, fun o ho => ?_⟩
    by_cases e : o = N
    · simp [e]
    · rw [appM e]
      cases hs : appB ls g c o with
      | false => rfl
      | true =>
        obtain ⟨b, hb, _⟩ := appB_some hs
        rw [befB_T hma (show va_up g N (some w) o = some b by rw [vu_ne e]; exact hb), h2 o b ho hs hb]
        simp
theorem befT_anti {T : TS} (hW : WF T) {pl ru c a b : Nat} (hpl : pl ≤ 3) (ha : vcall (tn T) pl a = true) (hb : vcall (tn T) pl b = true) (h1 : le3 (tls T) c a = true) (h2 : le3 (tls T) c b = true) (h3 : befT (tls T) ru c a b = true) (h4 : befT (tls T) ru c b a = true) : a = b := by
  unfold befT at h3 h4
  by_cases e : ru = 0
  · rw [if_pos e] at h3 h4
    have := le3_le hW ha hpl (vcall_lt hb hpl) h3
    have := le3_le hW hb hpl (vcall_lt ha hpl) h4
    omega
  · rw [if_neg e] at h3 h4
    exact absurd h4 (ahd_asym h1 h2 h3)
/-- the first is one only -/
theorem fst_one {T : TS} (hW : WF T) {pl ru c : Nat} {g : Nat → Option Nat} (hpl : pl ≤ 3) (hG : GOK (tn T) pl (tls T) g) (hI : gInj g) {m m' : Nat} (hm : m < 13) (hm' : m' < 13) (h : fstP (appB (tls T) g c) (befB (tls T) g ru c) m = true) (h' : fstP (appB (tls T) g c) (befB (tls T) g ru c) m' = true) : m = m' := by
  have s := fstP_S h
  have s' := fstP_S h'
  obtain ⟨a, ea, _, la⟩ := appB_some s
  obtain ⟨b, eb, _, lb⟩ := appB_some s'
  by_cases e : m = m'
  · exact e
  · unfold fstP at h h'
    rw [Bool.and_eq_true, allU] at h h'
    have h1 := h.2 m' hm'
    have h2 := h'.2 m hm
    rw [s', befB_T ea eb] at h1
    rw [s, befB_T eb ea] at h2
    simp [e, Ne.symm e] at h1 h2
    have hab := befT_anti hW hpl (hG m a ea).2.1 (hG m' b eb).2.1 la lb h1 h2
    subst hab
    exact hI m' m a eb ea
theorem gInj.up {g : Nat → Option Nat} {N w : Nat} (h : gInj g) (hno : ∀ m, g m ≠ some w) : gInj (va_up g N (some w)) := fun m m' t h1 h2 => by
  by_cases e : m = N
  · by_cases e' : m' = N
    · rw [e, e']
    · subst e
      rw [vu_at] at h1
      cases h1
      rw [vu_ne e'] at h2
      exact absurd h2 (hno m')
  · rw [vu_ne e] at h1
    by_cases e' : m' = N
    · subst e'
      rw [vu_at] at h2
      cases h2
      exact absurd h1 (hno m)
    · rw [vu_ne e'] at h2
      exact h m m' t h1 h2
theorem chg_dir {T : TS} (hW : WF T) {pl ru c : Nat} {g : Nat → Option Nat} {N1 N2 w : Nat} (hpl : pl ≤ 3) (hG : GOK (tn T) pl (tls T) g) (hI : gInj g) (hno : ∀ m, g m ≠ some w) (hv : vcall (tn T) pl w = true) (hw : le3 (tls T) c w = true) (h1 : N1 < 13) (h2 : N2 < 13) (g1 : g N1 = none) (g2 : g N2 = none) (h : ansI (tls T) (va_up g N1 (some w)) ru c = ansI (tls T) g ru c) : ansI (tls T) (va_up g N2 (some w)) ru c = ansI (tls T) g ru c := by
  have hvs := vcall_spec hv
  have hlr := le3_refl hW hvs.2.1 hvs.2.2.1 hvs.2.2.2
  have hG2 : GOK (tn T) pl (tls T) (va_up g N2 (some w)) := hG.up h2 hv hlr hpl
  have hI2 : gInj (va_up g N2 (some w)) := hI.up hno
  have hsame : ∀ m a, m ≠ N1 → m ≠ N2 → g m = some a → (fstP (appB (tls T) (va_up g N1 (some w)) c) (befB (tls T) (va_up g N1 (some w)) ru c) m = true ↔ fstP (appB (tls T) (va_up g N2 (some w)) c) (befB (tls T) (va_up g N2 (some w)) ru c) m = true) := fun m a e1 e2 ea => by rw [fstN_m h1 g1 hw e1 ea, fstN_m h2 g2 hw e2 ea]
  have h5 := h
  unfold ansI at h5
  rcases fstI_cases (appB (tls T) (va_up g N1 (some w)) c) (befB (tls T) (va_up g N1 (some w)) ru c) with ⟨_, q⟩ | ⟨q1, _, q2⟩ | ⟨m, hm, q1, q2, q3, _⟩
  · have := q N1 h1
    rw [appN h1 hw] at this
    cases this
  · have e : ansI (tls T) (va_up g N2 (some w)) ru c = -2 := by
      unfold ansI
      refine fstI_amb h2 (appN h2 hw) (fun m hm => ?_)
      cases hf : fstP (appB (tls T) (va_up g N2 (some w)) c) (befB (tls T) (va_up g N2 (some w)) ru c) m with
      | false => rfl
      | true =>
        by_cases e2 : m = N2
        · subst e2
          rw [fstN_N h2 g2 hw] at hf
          have := q2 N1 h1
          rw [(fstN_N h1 g1 hw).mpr hf] at this
          cases this
        · have s := fstP_S hf
          rw [appM e2] at s
          obtain ⟨a, ea, _⟩ := appB_some s
          have e1 : m ≠ N1 := fun e => by subst e; rw [g1] at ea; cases ea
          have := q2 m hm
          rw [(hsame m a e1 e2 ea).mpr hf] at this
          cases this
    rw [e, ← h]
    unfold ansI
    rw [q1]
  · rw [q1] at h5
    rcases fstI_cases (appB (tls T) g c) (befB (tls T) g ru c) with ⟨w1, _⟩ | ⟨w1, _⟩ | ⟨m', hm', w1, w2, _⟩
    · rw [w1] at h5; exact absurd h5 (nI_ne1 (by omega))
    · rw [w1] at h5
      have := nI_pos (n := m) (by omega)
      rw [h5] at this
      exact absurd (by decide) this
    · rw [w1, nI_eq (by omega) (by omega)] at h5
      subst h5
      obtain ⟨a, ea, _⟩ := appB_some w2
      have e1 : m ≠ N1 := fun e => by subst e; rw [g1] at ea; cases ea
      have e2 : m ≠ N2 := fun e => by subst e; rw [g2] at ea; cases ea
      have hf := (hsame m a e1 e2 ea).mp q3
      have e : ansI (tls T) (va_up g N2 (some w)) ru c = nI m := by
        unfold ansI
        refine fstI_hit hm hf (fun j hj => ?_)
        cases hj2 : fstP (appB (tls T) (va_up g N2 (some w)) c) (befB (tls T) (va_up g N2 (some w)) ru c) j with
        | false => rfl
        | true => have := fst_one hW hpl hG2 hI2 hm (by omega) hf hj2; omega
      rw [e]
      unfold ansI
      rw [w1]
/-- a method that does not apply changes nothing -/
theorem ans_off {ls : Nat → List Nat} {g : Nat → Option Nat} {ru c N w : Nat} (hg : g N = none) (hw : le3 ls c w = false) : ansI ls (va_up g N (some w)) ru c = ansI ls g ru c := by
  have hS : ∀ m, appB ls (va_up g N (some w)) c m = appB ls g c m := fun m => by
    by_cases e : m = N
    · subst e
      rw [app_no hg]
      unfold appB
      rw [vu_at]
      simp [hw]
    · exact appM e
  unfold ansI
  refine fstI_congr (fun m _ => hS m) (fun m o _ _ sm so _ => ?_)
  have hN : ∀ x, appB ls (va_up g N (some w)) c x = true → x ≠ N := fun x hx e => by
    subst e
    rw [hS, app_no hg] at hx
    cases hx
  unfold befB
  rw [vu_ne (hN m sm), vu_ne (hN o so)]
theorem tgx_up (g : Nat → Option Nat) (w k : Nat) : tgx g (some (w, k)) = va_up g k (some w) := by
  funext m
  unfold tgx va_up
  rfl
/-- 'change', as the class counts it -/
theorem chB_eq {T : TS} (hW : WF T) {f w : Nat} (hf : f < tnf T) (hno : ∀ m, ttg T f m ≠ some w) (hv : vcall (tn T) (tpl T f) w = true) (c : Nat) : chB T f w c = (vcall (tn T) (tpl T f) c && (le3 (tls T) c w && !decide (ansI (tls T) (va_up (ttg T f) 12 (some w)) (tru T) c = ansI (tls T) (ttg T f) (tru T) c))) := by
  have hpl := hW.2.2.2.2.1 f hf
  unfold chB
  congr 1
  rw [tgx_up]
  have hK : chK T f < 13 ∧ ttg T f (chK T f) = none := by
    unfold chK
    cases h : mFree T f with
    | none =>
      refine ⟨by decide, ?_⟩
      cases h2 : ttg T f 12 with
      | none => exact h2
      | some t => have := (hW.2.2.2.2.2.1 f 12 t hf h2).1; omega
    | some m =>
      obtain ⟨h1, h2, _⟩ := fnd_some h
      exact ⟨show m < 13 by omega, by simpa using h2⟩
  have h12 : ttg T f 12 = none := by
    cases h2 : ttg T f 12 with
    | none => rfl
    | some t => have := (hW.2.2.2.2.2.1 f 12 t hf h2).1; omega
  cases hw : le3 (tls T) c w with
  | false => rw [ans_off hK.2 hw]; simp
  | true =>
    rw [Bool.true_and]
    congr 1
    rw [decide_eq_decide]
    exact ⟨fun h => chg_dir hW hpl.2 (GOK.of hW hf) (hW.gInj hf) hno hv hw hK.1 (by decide) hK.2 h12 h, fun h => chg_dir hW hpl.2 (GOK.of hW hf) (hW.gInj hf) hno hv hw (by decide) hK.1 h12 hK.2 h⟩
theorem sp_changeX {T : TS} {σ : Sg} (hX : InvX T σ) (hW : WF T) (x y : Int32) : Sp yX2_change cX2_change 9 (some .int) 5 [.inr 0, .inl x, .inl y] σ (nX T σ (aChange T x y)) := by
  have h4 := hW.2.2.2.1
  have hn := hW.1
  refine Sp.intro rfl (Nat.le_of_ble_eq_true rfl) (fun Γ c r => ?_)
  show J Γ 0 [some (.inr 0), some (.inl x), some (.inl y), none, none, none, none, none, none] [] σ
  refine j_aload_n c dX2_change_0 rfl ?_
  refine j_iload_n c dX2_change_1 rfl ?_
  refine j_iload_n c dX2_change_2 rfl ?_
  refine j_callV1 c kw_X2_96 (sp_hasCall hX hW x y) dX2_change_3 rfl rfl (by decide) (Nat.le_of_ble_eq_true rfl) (Nat.le_of_ble_eq_true rfl) rfl rfl ?_
  refine j_if_ne c 11 dX2_change_6 (by decide) (fun e => ?_) (fun e => ?_)
  · have e2 := bI_nz e
    obtain ⟨i, w, hi, rfl, rfl, hv⟩ := isC_of h4 e2
    have hpl := hW.2.2.2.2.1 i hi
    have hwl := vcall_lt hv hpl.2
    have hp : FnP (15 + 7 * i) := FnP.of (by omega)
    have hF := hX.2.2.2.2.2.1 i hi
    have hG := GOK.of hW hi
    have hN := npow_b hn.2 hpl.2
    have ha : aChange T (nI i) (nI w) = (if (mFor T i w).isSome then -2 else nI (cnt (chB T i w) (16 ^ tpl T i))) := by unfold aChange; rw [e2, nI_clamp (n := i) (by omega), nI_clamp (n := w) (by omega)]; rfl
    rw [ha] at r
    refine j_aload_n c dX2_change_11 rfl ?_
    refine j_getR c fl_X2_18 dX2_change_12 (Nat.le_of_ble_eq_true rfl) rfl rfl ?_
    refine j_iload_n c dX2_change_15 rfl ?_
    refine j_aald c dX2_change_16 (Nat.le_of_ble_eq_true rfl) rfl rfl (by omega) (by decide) ?_
    refine j_astore_n c dX2_change_17 (Nat.le_of_ble_eq_true rfl) rfl ?_
    refine j_aload_n c dX2_change_18 rfl ?_
    refine j_iload_n c dX2_change_19 rfl ?_
    refine j_callV1 c kw_X2_103 (sp_hasMethodFor hp hF.2.1 (fun m t h => ⟨hF.2.2.1 m t h, (hG m t h).2.2.2.2.2.2⟩) hwl) dX2_change_20 rfl rfl (by decide) (Nat.le_of_ble_eq_true rfl) hp.lt0 (lf0 hp) rfl ?_
    have hfo2 : (fnd (fun m => decide (ttg T i m = some w)) 12) = mFor T i w := rfl
    rw [hfo2]
    cases hfo : mFor T i w with
    | some m2 =>
      rw [hfo] at r
      refine j_if_eq c 29 dX2_change_23 (by decide) (fun h_9 => absurd h_9 (by show ¬ bI true = 0; decide)) (fun _ => ?_)
      refine j_bipush c (-2) dX2_change_26 (by decide) ?_
      exact j_iret c r dX2_change_28 rfl ⟨rfl, hX, frXo.rfl' σ⟩
    | none =>
      rw [hfo] at r
      have hno := mFor_none hW hi hfo
      have h12 : ttg T i 12 = none := by
        cases h2 : ttg T i 12 with
        | none => rfl
        | some t => have := (hW.2.2.2.2.2.1 i 12 t hi h2).1; omega
      have hvs := vcall_spec hv
      have hlr := le3_refl hW hvs.2.1 hvs.2.2.1 hvs.2.2.2
      have hG2 : GOK (tn T) (tpl T i) (tls T) (va_up (ttg T i) 12 (some w)) := hG.up (by decide) hv hlr hpl.2
      have hI2 : gInj (va_up (ttg T i) 12 (some w)) := (hW.gInj hi).up hno
      have hcnt : cnt (chB T i w) (16 ^ tpl T i) = cnt (fun j => le3 (tls T) (ci (tn T) j) w && !decide (ansI (tls T) (va_up (ttg T i) 12 (some w)) (tru T) (ci (tn T) j) = ansI (tls T) (ttg T i) (tru T) (ci (tn T) j))) (tn T ^ tpl T i) := by
        rw [← cnt_all hn.1 hn.2 hpl (fun c => le3 (tls T) c w && !decide (ansI (tls T) (va_up (ttg T i) 12 (some w)) (tru T) c = ansI (tls T) (ttg T i) (tru T) c))]
        exact cnt_congr (fun c _ => chB_eq hW hi hno hv c)
      rw [hcnt] at r
      refine j_if_eq c 29 dX2_change_23 (by decide) (fun _ => ?_) (fun h_9 => absurd (by rfl) h_9)
      refine j_aload_n c dX2_change_29 rfl ?_
      refine j_iload_n c dX2_change_30 rfl ?_
      refine j_callV c kw_X2_212 (sp_fillAnswers hX hW hi) dX2_change_31 rfl rfl (by decide) (Nat.le_of_ble_eq_true rfl) (Nat.le_of_ble_eq_true rfl) rfl rfl ?_
      rintro _ σ1 ⟨rfl, hP⟩
      have hX1 := hP.1
      refine j_aload_n c dX2_change_34 rfl ?_
      refine j_getR c fl_X2_23 dX2_change_35 (Nat.le_of_ble_eq_true rfl) rfl rfl ?_
      refine j_aload_n c dX2_change_38 rfl ?_
      refine j_callV c kw_X2_218 (sp_copyMethods hp hW (hX1.2.2.2.2.2.1 i hi) hG) dX2_change_39 rfl rfl (by decide) (Nat.le_of_ble_eq_true rfl) FnP.trial.lt0 (lf0 FnP.trial) rfl ?_
      rintro _ σ2 ⟨rfl, F2, q2⟩
      have C2 : CX T σ2 := hX1.1.keep (fun q x1 x2 => q2 q (by omega) (by omega) (by omega) (by omega))
      refine j_aload_n c dX2_change_42 rfl ?_
      refine j_getR c fl_X2_23 dX2_change_43 (Nat.le_of_ble_eq_true rfl) rfl rfl ?_
      refine j_bipush c (nI 12) dX2_change_46 (by decide) ?_
      refine j_iload_n c dX2_change_48 rfl ?_
      refine j_aload_n c dX2_change_49 rfl ?_
      refine j_getR c fl_X2_12 dX2_change_50 (Nat.le_of_ble_eq_true rfl) rfl rfl ?_
      refine j_callV c kw_X2_106 (sp_put FnP.trial C2 hW F2 hG hpl.2 (k := 12) (by decide) h12 hv) dX2_change_53 rfl rfl (by decide) (Nat.le_of_ble_eq_true rfl) FnP.trial.lt0 (lf0 FnP.trial) rfl ?_
      rintro _ σ3 ⟨rfl, F3, q3, _⟩
      have sq : ∀ q, q < 43 ∨ 49 < q → σ3 q = σ1 q := fun q hq => by rw [q3 q (by omega) (by omega) (by omega) (by omega), q2 q (by omega) (by omega) (by omega) (by omega)]
      have C3 : CX T σ3 := hX1.1.keep (fun q x1 x2 => sq q (by omega))
      have hX3 : InvX T σ3 := hX1.keep h4 (fun q _ _ _ hq => sq q hq) (fun j _ => by rw [sq 0 (by omega)])
      have hfr : frXo σ σ3 := hP.fr.trans (fun q hq => sq q (by omega))
      refine j_iconst c (nI 0) dX2_change_56 (by decide) ?_
      refine j_istore c dX2_change_57 (Nat.le_of_ble_eq_true rfl) rfl ?_
      refine j_aload_n c dX2_change_59 rfl ?_
      refine j_aload_n c dX2_change_60 rfl ?_
      refine j_callV1 c kw_X2_147 (sp_callCount hp (hX3.2.2.2.2.2.1 i hi).1 C3.1 hpl.2) dX2_change_61 rfl rfl (by decide) (Nat.le_of_ble_eq_true rfl) (Nat.le_of_ble_eq_true rfl) rfl rfl ?_
      refine j_istore c dX2_change_64 (Nat.le_of_ble_eq_true rfl) rfl ?_
      refine j_iconst c (nI 0) dX2_change_66 (by decide) ?_
      refine j_istore c dX2_change_67 (Nat.le_of_ble_eq_true rfl) rfl ?_
      refine j_iconst c (nI 0) dX2_change_69 (by decide) ?_
      refine j_istore c dX2_change_70 (Nat.le_of_ble_eq_true rfl) rfl ?_
      generalize hPd : (fun j => le3 (tls T) (ci (tn T) j) w && !decide (ansI (tls T) (va_up (ttg T i) 12 (some w)) (tru T) (ci (tn T) j) = ansI (tls T) (ttg T i) (tru T) (ci (tn T) j))) = P at r
      have key : ∀ j, j ≤ tn T ^ tpl T i → ∀ u : Option PV, J Γ 72 [some (.inr 0), some (.inl (nI i)), some (.inl (nI w)), some (.inr (15 + 7 * i)), some (.inl (nI (cnt P j))), some (.inl (nI (tn T ^ tpl T i))), some (.inl (nI j)), some (.inl (nI (ci (tn T) j))), u] [] σ3 := by
        refine loopN _ ?_ ?_
        · intro u
          refine j_iload c dX2_change_72 rfl ?_
          refine j_iload c dX2_change_74 rfl ?_
          refine j_icmp_ge c 142 dX2_change_76 (by decide) (fun _ => ?_) (fun h_9 => absurd (nI_le (Nat.le_refl _) (by omega)) h_9)
          refine j_iload c dX2_change_142 rfl ?_
          exact j_iret c r dX2_change_144 rfl ⟨rfl, hX3, hfr⟩
        · intro j hj ih u
          have hj3 := npow_lt hn.1 hpl.2 hj
          have hvj := ci_v hn.1 hn.2 hpl hj
          have hcl := ci_lt hn.1 hn.2 hj3
          have hPj : P j = (le3 (tls T) (ci (tn T) j) w && !decide (ansI (tls T) (va_up (ttg T i) 12 (some w)) (tru T) (ci (tn T) j) = ansI (tls T) (ttg T i) (tru T) (ci (tn T) j))) := by rw [← hPd]
          have nxt : ∀ u : Option PV, J Γ 125 [some (.inr 0), some (.inl (nI i)), some (.inl (nI w)), some (.inr (15 + 7 * i)), some (.inl (nI (cnt P (j + 1)))), some (.inl (nI (tn T ^ tpl T i))), some (.inl (nI j)), some (.inl (nI (ci (tn T) j))), u] [] σ3 := by
            intro u
            refine j_iinc c _ dX2_change_125 rfl (by first | exact nI_1 _ | exact pk_m1 _ | rfl) rfl ?_
            refine j_aload_n c dX2_change_128 rfl ?_
            refine j_getR c fl_X2_12 dX2_change_129 (Nat.le_of_ble_eq_true rfl) rfl rfl ?_
            refine j_iload c dX2_change_132 rfl ?_
            refine j_callV1 c kw_X2_209 (sp_next C3.1 hn.1 hn.2 hj3) dX2_change_134 rfl rfl (by decide) (Nat.le_of_ble_eq_true rfl) (Nat.le_of_ble_eq_true rfl) rfl rfl ?_
            refine j_istore c dX2_change_137 (Nat.le_of_ble_eq_true rfl) rfl ?_
            refine j_goto c 72 dX2_change_139 (by decide) ?_
            exact ih _
          have happ : appB (tls T) (va_up (ttg T i) 12 (some w)) (ci (tn T) j) 12 = le3 (tls T) (ci (tn T) j) w := by
            unfold appB
            rw [vu_at]
            rfl
          refine j_iload c dX2_change_72 rfl ?_
          refine j_iload c dX2_change_74 rfl ?_
          refine j_icmp_ge c 142 dX2_change_76 (by decide) (fun h_9 => absurd h_9 (nI_ge hj (by omega))) (fun _ => ?_)
          refine j_aload_n c dX2_change_79 rfl ?_
          refine j_getR c fl_X2_23 dX2_change_80 (Nat.le_of_ble_eq_true rfl) rfl rfl ?_
          refine j_iload c dX2_change_83 rfl ?_
          refine j_callV1 c kw_X2_186 (sp_thatApply FnP.trial hn.2 F3.2.2.2.1 hcl.1 hcl.2.1 hcl.2.2.1 hcl.2.2.2) dX2_change_85 rfl rfl (by decide) (Nat.le_of_ble_eq_true rfl) FnP.trial.lt0 (lf0 FnP.trial) rfl ?_
          refine j_istore c dX2_change_88 (Nat.le_of_ble_eq_true rfl) rfl ?_
          refine j_iload c dX2_change_90 rfl ?_
          refine j_bipush c (nI 12) dX2_change_92 (by decide) ?_
          refine j_ishr c _ dX2_change_94 rfl ?_
          refine j_iconst c (nI 1) dX2_change_95 (by decide) ?_
          refine j_iand c _ dX2_change_96 (bt_shr _ (by decide)) ?_
          rw [bt_app, happ]
          refine j_if_eq c 125 dX2_change_97 (by decide) (fun z => ?_) (fun z => ?_)
          · have e1 : cnt P (j + 1) = cnt P j := by simp [cnt, hPj, bI_z z]
            rw [e1] at nxt
            exact nxt _
          · have z2 := bI_nz z
            rw [z2] at hPj
            refine j_aload_n c dX2_change_100 rfl ?_
            refine j_aload_n c dX2_change_101 rfl ?_
            refine j_getR c fl_X2_23 dX2_change_102 (Nat.le_of_ble_eq_true rfl) rfl rfl ?_
            refine j_iload c dX2_change_105 rfl ?_
            refine j_iload c dX2_change_107 rfl ?_
            refine j_callV1 c kw_X2_189 (sp_firstOfX FnP.trial C3 hW hG2 hI2 F3 (by rw [sq 0 (by omega)]; exact hX1.2.2.1) hW.2.2.2.2.2.2.1 hcl.1 (fun p => vcall_dg hvj hpl.2 hn.1) _ (appB (tls T) (va_up (ttg T i) 12 (some w)) (ci (tn T) j)) app13 (fun m _ h => h)) dX2_change_109 rfl rfl (by decide) (Nat.le_of_ble_eq_true rfl) (Nat.le_of_ble_eq_true rfl) rfl rfl ?_
            refine j_aload_n c dX2_change_112 rfl ?_
            refine j_getR c fl_X2_47 dX2_change_113 (Nat.le_of_ble_eq_true rfl) rfl rfl ?_
            refine j_iload c dX2_change_116 rfl ?_
            refine j_iald c dX2_change_118 (Nat.le_of_ble_eq_true rfl) rfl rfl (by omega) (by decide) ?_
            rw [sq 13 (by omega), hP.2.2.2 _ hvj]
            have hv2 : fstI (appB (tls T) (va_up (ttg T i) 12 (some w)) (ci (tn T) j)) (befB (tls T) (va_up (ttg T i) 12 (some w)) (tru T) (ci (tn T) j)) = ansI (tls T) (va_up (ttg T i) 12 (some w)) (tru T) (ci (tn T) j) := rfl
            rw [hv2]
            refine j_icmp_eq c 125 dX2_change_119 (by decide) (fun q => ?_) (fun q => ?_)
            · have e1 : cnt P (j + 1) = cnt P j := by simp [cnt, hPj, q]
              rw [e1] at nxt
              exact nxt _
            · have e1 : cnt P (j + 1) = cnt P j + 1 := by simp [cnt, hPj, q]
              rw [e1] at nxt
              refine j_iinc c _ dX2_change_122 rfl (by first | exact nI_1 _ | exact pk_m1 _ | rfl) rfl ?_
              exact nxt _
      have k0 := key 0 (Nat.zero_le _) none
      rw [ci_0] at k0
      exact k0
  · refine j_iconst c (-1) dX2_change_9 (by decide) ?_
    exact j_iret c r dX2_change_10 rfl ⟨by simp [aChange, bI_z e], hX, frXo.rfl' σ⟩
/-- the least ambiguous call is the first clash -/
theorem clO_hit {T : TS} (hW : WF T) {f i : Nat} (hf : f < tnf T) {g : Nat → Option Nat} (hi : i < tn T ^ tpl T f) (h0 : ∀ j, j < i → ansI (tls T) g 0 (ci (tn T) j) ≠ -2) (h : ansI (tls T) g 0 (ci (tn T) i) = -2) : clO T f g = some (ci (tn T) i) := by
  have hn := hW.1
  have hpl := hW.2.2.2.2.1 f hf
  have hv := ci_v hn.1 hn.2 hpl hi
  have hrow : ∀ o, row0 T f g o = -2 → vcall (tn T) (tpl T f) o = true ∧ ansI (tls T) g 0 o = -2 := fun o ho => by
    unfold row0 at ho
    by_cases hv : vcall (tn T) (tpl T f) o = true
    · rw [if_pos hv] at ho; exact ⟨hv, ho⟩
    · rw [if_neg hv] at ho; exact absurd ho (by decide)
  have hri : row0 T f g (ci (tn T) i) = -2 := by unfold row0; rw [if_pos hv]; exact h
  have hno : ∀ o, o < ci (tn T) i → row0 T f g o ≠ -2 := fun o ho he => by
    obtain ⟨hvo, hao⟩ := hrow o he
    obtain ⟨j, hj, ej⟩ := ci_before hW hf hi hvo ho
    rw [← ej] at hao
    exact h0 j hj hao
  unfold clO
  refine fnd_hit (vcall_spec hv).1 ?_ (fun o ho => ?_)
  · unfold clB
    rw [decide_eq_true hri, Bool.true_and]
    refine allU.mpr (fun o ho => ?_)
    by_cases e : o = ci (tn T) i
    · simp [e]
    · rw [hri]
      by_cases e2 : row0 T f g o = -2
      · cases hl : le3 (tls T) (ci (tn T) i) o with
        | false => simp
        | true =>
          have hle := le3_le hW hv hpl.2 (vcall_lt (hrow o e2).1 hpl.2) hl
          exact absurd e2 (hno o (by omega))
      · simp [e2]
  · unfold clB
    rw [decide_eq_false (hno o ho)]
    rfl
theorem clO_no {T : TS} (hW : WF T) {f : Nat} (hf : f < tnf T) {g : Nat → Option Nat} (h0 : ∀ j, j < tn T ^ tpl T f → ansI (tls T) g 0 (ci (tn T) j) ≠ -2) : clO T f g = none := by
  have hn := hW.1
  have hpl := hW.2.2.2.2.1 f hf
  unfold clO
  refine fnd_no (fun o ho => ?_)
  unfold clB row0
  by_cases hv : vcall (tn T) (tpl T f) o = true
  · rw [if_pos hv]
    have hs := vcall_spec hv
    have := h0 _ (ix_lt hn.1 hpl hv)
    rw [ci_ix hn.1 hs.2.1 hs.2.2.1 (vcall_lt hv hpl.2)] at this
    rw [decide_eq_false this]
    rfl
  · rw [if_neg hv]
    rfl
/-- a method for a call is its first -/
theorem ans_own {T : TS} {pl c m : Nat} {g : Nat → Option Nat} (hG : GOK (tn T) pl (tls T) g) (hm : m < 13) (hg : g m = some c) : ansI (tls T) g 0 c ≠ -2 := by
  intro h
  unfold ansI at h
  rcases fstI_cases (appB (tls T) g c) (befB (tls T) g 0 c) with ⟨w1, _⟩ | ⟨_, _, w2⟩ | ⟨m', hm', w1, _⟩
  · rw [w1] at h; exact absurd h (by decide)
  · have := w2 m hm
    have hf : fstP (appB (tls T) g c) (befB (tls T) g 0 c) m = true := by
      unfold fstP
      rw [Bool.and_eq_true, allU]
      refine ⟨by unfold appB; rw [hg]; simp [hm, (hG m c hg).2.2.1], fun o ho => ?_⟩
      cases hs : appB (tls T) g c o with
      | false => rfl
      | true =>
        obtain ⟨b, hb, _, hl⟩ := appB_some hs
        rw [befB_T hg hb]
        unfold befT
        rw [if_pos rfl, hl]
        simp
    rw [hf] at this
    cases this
  · rw [w1] at h
    have := nI_pos (n := m') (by omega)
    rw [h] at this
    exact absurd (by decide) this
theorem stl_no {T : TS} {f : Nat} {g : Nat → Option Nat} {n : Nat} (h : clO T f g = none) : ∀ k, stl T f k g n = nI n
  | 0 => by unfold stl; rw [h]
  | k + 1 => by unfold stl; rw [h]
theorem stl_full {T : TS} {f : Nat} {g : Nat → Option Nat} {n c : Nat} (h : clO T f g = some c) (h2 : frO g = none) : ∀ k, stl T f k g n = -2
  | 0 => by unfold stl; rw [h]
  | k + 1 => by unfold stl; rw [h, h2]
theorem sp_settleX {T : TS} {σ : Sg} (hX : InvX T σ) (hW : WF T) (x : Int32) : Sp yX2_settle cX2_settle 7 (some .int) 4 [.inr 0, .inl x] σ (nX T σ (aSettle T x)) := by
  have h4 := hW.2.2.2.1
  have hn := hW.1
  refine Sp.intro rfl (Nat.le_of_ble_eq_true rfl) (fun Γ c r => ?_)
  show J Γ 0 [some (.inr 0), some (.inl x), none, none, none, none, none] [] σ
  refine j_aload_n c dX2_settle_0 rfl ?_
  refine j_iload_n c dX2_settle_1 rfl ?_
  refine j_callV1 c kw_X2_144 (sp_hasFunction σ x (tnf T) hX.2.1 h4) dX2_settle_2 rfl rfl (by decide) (Nat.le_of_ble_eq_true rfl) (Nat.le_of_ble_eq_true rfl) rfl rfl ?_
  refine j_if_ne c 10 dX2_settle_5 (by decide) (fun e => ?_) (fun e => ?_)
  · have e2 := bI_nz e
    obtain ⟨i, hi, hi2, rfl⟩ := isN_of e2
    have hp : FnP (15 + 7 * i) := FnP.of (by omega)
    have hpl := hW.2.2.2.2.1 i hi
    have hF := hX.2.2.2.2.2.1 i hi
    have hG := GOK.of hW hi
    have hN := npow_b hn.2 hpl.2
    have ha : aSettle T (nI i) = stl T i 12 (ttg T i) 0 := by unfold aSettle; rw [e2, nI_clamp hi2]; rfl
    rw [ha] at r
    refine j_aload_n c dX2_settle_10 rfl ?_
    refine j_getR c fl_X2_23 dX2_settle_11 (Nat.le_of_ble_eq_true rfl) rfl rfl ?_
    refine j_aload_n c dX2_settle_14 rfl ?_
    refine j_getR c fl_X2_18 dX2_settle_15 (Nat.le_of_ble_eq_true rfl) rfl rfl ?_
    refine j_iload_n c dX2_settle_18 rfl ?_
    refine j_aald c dX2_settle_19 (Nat.le_of_ble_eq_true rfl) rfl rfl (by omega) (by decide) ?_
    refine j_callV c kw_X2_218 (sp_copyMethods hp hW hF hG) dX2_settle_20 rfl rfl (by decide) (Nat.le_of_ble_eq_true rfl) FnP.trial.lt0 (lf0 FnP.trial) rfl ?_
    rintro _ σ1 ⟨rfl, F1, q1⟩
    refine j_iconst c (nI 0) dX2_settle_23 (by decide) ?_
    refine j_istore_n c dX2_settle_24 (Nat.le_of_ble_eq_true rfl) rfl ?_
    refine j_aload_n c dX2_settle_25 rfl ?_
    refine j_aload_n c dX2_settle_26 rfl ?_
    refine j_getR c fl_X2_23 dX2_settle_27 (Nat.le_of_ble_eq_true rfl) rfl rfl ?_
    refine j_callV1 c kw_X2_147 (sp_callCount FnP.trial F1.1 (by rw [q1 1 (by decide) (by decide) (by decide) (by decide)]; exact hX.1.1) hpl.2) dX2_settle_30 rfl rfl (by decide) (Nat.le_of_ble_eq_true rfl) (Nat.le_of_ble_eq_true rfl) rfl rfl ?_
    refine j_istore_n c dX2_settle_33 (Nat.le_of_ble_eq_true rfl) rfl ?_
    refine j_iconst c (nI 0) dX2_settle_34 (by decide) ?_
    refine j_istore c dX2_settle_35 (Nat.le_of_ble_eq_true rfl) rfl ?_
    refine j_iconst c (nI 0) dX2_settle_37 (by decide) ?_
    refine j_istore c dX2_settle_38 (Nat.le_of_ble_eq_true rfl) rfl ?_
    have key : ∀ j, j ≤ tn T ^ tpl T i → ∀ (k m : Nat) (g : Nat → Option Nat) (σ2 : Sg) (u : Option PV), (∀ q, q < 43 ∨ 49 < q → σ2 q = σ q) → FX (tn T) (tls T) 43 (tpl T i) g σ2 → GOK (tn T) (tpl T i) (tls T) g → cnt (fun m => (g m).isNone) 12 ≤ k → stl T i 12 (ttg T i) 0 = stl T i k g m → (∀ j', j' < j → ansI (tls T) g 0 (ci (tn T) j') ≠ -2) → J Γ 40 [some (.inr 0), some (.inl (nI i)), some (.inl (nI m)), some (.inl (nI (tn T ^ tpl T i))), some (.inl (nI j)), some (.inl (nI (ci (tn T) j))), u] [] σ2 := by
      refine loopN _ ?_ ?_
      · intro k m g σ2 u f1 f2 f3 f4 f5 f6
        have hv : stl T i 12 (ttg T i) 0 = nI m := by rw [f5]; exact stl_no (clO_no hW hi f6) k
        refine j_iload c dX2_settle_40 rfl ?_
        refine j_iload_n c dX2_settle_42 rfl ?_
        refine j_icmp_ge c 120 dX2_settle_43 (by decide) (fun _ => ?_) (fun h_9 => absurd (nI_le (Nat.le_refl _) (by omega)) h_9)
        refine j_iload_n c dX2_settle_120 rfl ?_
        exact j_iret c r dX2_settle_121 rfl ⟨by rw [hv], hX.keep h4 (fun q _ _ _ hq => f1 q hq) (fun j _ => by rw [f1 0 (by omega)]), fun q hq => f1 q (by omega)⟩
      · intro j hj ih k m g σ2 u f1 f2 f3 f4 f5 f6
        have hj3 := npow_lt hn.1 hpl.2 hj
        have hvj := ci_v hn.1 hn.2 hpl hj
        have hcl := ci_lt hn.1 hn.2 hj3
        have C2 : CX T σ2 := hX.1.keep (fun q x1 x2 => f1 q (by omega))
        refine j_iload c dX2_settle_40 rfl ?_
        refine j_iload_n c dX2_settle_42 rfl ?_
        refine j_icmp_ge c 120 dX2_settle_43 (by decide) (fun h_9 => absurd h_9 (nI_ge hj (by omega))) (fun _ => ?_)
        refine j_aload_n c dX2_settle_46 rfl ?_
        refine j_getR c fl_X2_23 dX2_settle_47 (Nat.le_of_ble_eq_true rfl) rfl rfl ?_
        refine j_aload_n c dX2_settle_50 rfl ?_
        refine j_getR c fl_X2_23 dX2_settle_51 (Nat.le_of_ble_eq_true rfl) rfl rfl ?_
        refine j_iload c dX2_settle_54 rfl ?_
        refine j_callV1 c kw_X2_186 (sp_thatApply FnP.trial hn.2 f2.2.2.2.1 hcl.1 hcl.2.1 hcl.2.2.1 hcl.2.2.2) dX2_settle_56 rfl rfl (by decide) (Nat.le_of_ble_eq_true rfl) FnP.trial.lt0 (lf0 FnP.trial) rfl ?_
        refine j_callV1 c kw_X2_222 (sp_leastOf FnP.trial f3 f2.2.2.2.2 _ (appB (tls T) g (ci (tn T) j)) app13 app_g (ci (tn T) j)) dX2_settle_59 rfl rfl (by decide) (Nat.le_of_ble_eq_true rfl) FnP.trial.lt0 (lf0 FnP.trial) rfl ?_
        refine j_bipush c (-2) dX2_settle_62 (by decide) ?_
        have hv2 : fstI (appB (tls T) g (ci (tn T) j)) (befB (tls T) g 0 (ci (tn T) j)) = ansI (tls T) g 0 (ci (tn T) j) := rfl
        rw [hv2]
        refine j_icmp_ne c 103 dX2_settle_64 (by decide) (fun q => ?_) (fun q => ?_)
        · refine j_iinc c _ dX2_settle_103 rfl (by first | exact nI_1 _ | exact pk_m1 _ | rfl) rfl ?_
          refine j_aload_n c dX2_settle_106 rfl ?_
          refine j_getR c fl_X2_12 dX2_settle_107 (Nat.le_of_ble_eq_true rfl) rfl rfl ?_
          refine j_iload c dX2_settle_110 rfl ?_
          refine j_callV1 c kw_X2_209 (sp_next C2.1 hn.1 hn.2 hj3) dX2_settle_112 rfl rfl (by decide) (Nat.le_of_ble_eq_true rfl) (Nat.le_of_ble_eq_true rfl) rfl rfl ?_
          refine j_istore c dX2_settle_115 (Nat.le_of_ble_eq_true rfl) rfl ?_
          refine j_goto c 40 dX2_settle_117 (by decide) ?_
          refine ih k m g σ2 _ f1 f2 f3 f4 f5 (fun j' hj' => ?_)
          by_cases ej : j' = j
          · subst ej; exact q
          · exact f6 j' (by omega)
        · have hcl2 := clO_hit hW hi hj f6 q
          refine j_aload_n c dX2_settle_67 rfl ?_
          refine j_getR c fl_X2_23 dX2_settle_68 (Nat.le_of_ble_eq_true rfl) rfl rfl ?_
          refine j_callV1 c kw_X2_99 (sp_leastFree FnP.trial f2.2.1) dX2_settle_71 rfl rfl (by decide) (Nat.le_of_ble_eq_true rfl) FnP.trial.lt0 (lf0 FnP.trial) rfl ?_
          cases hfr : frO g with
          | none =>
            have hv : stl T i 12 (ttg T i) 0 = -2 := by rw [f5]; exact stl_full hcl2 hfr k
            refine j_istore c dX2_settle_74 (Nat.le_of_ble_eq_true rfl) rfl ?_
            refine j_iload c dX2_settle_76 rfl ?_
            refine j_iconst c (-1) dX2_settle_78 (by decide) ?_
            refine j_icmp_ne c 85 dX2_settle_79 (by decide) (fun h_9 => absurd (by rfl) h_9) (fun _ => ?_)
            refine j_bipush c (-2) dX2_settle_82 (by decide) ?_
            exact j_iret c r dX2_settle_84 rfl ⟨by rw [hv], hX.keep h4 (fun q _ _ _ hq => f1 q hq) (fun j _ => by rw [f1 0 (by omega)]), fun q hq => f1 q (by omega)⟩
          | some z =>
            obtain ⟨hz, hzn, _⟩ := fnd_some hfr
            have hzn2 : g z = none := by simpa using hzn
            have hfill := cnt_fill (g := g) (m := z) (c := ci (tn T) j) hz hzn
            obtain ⟨k', rfl⟩ : ∃ k', k = k' + 1 := ⟨k - 1, by omega⟩
            have hst : stl T i (k' + 1) g m = stl T i k' (va_up g z (some (ci (tn T) j))) (m + 1) := by
              show (match clO T i g with | none => nI m | some c => match frO g with | none => -2 | some m' => stl T i k' (va_up g m' (some c)) (m + 1)) = _
              rw [hcl2, hfr]
            have hvs := vcall_spec hvj
            have hlr := le3_refl hW hvs.2.1 hvs.2.2.1 hvs.2.2.2
            have hG3 : GOK (tn T) (tpl T i) (tls T) (va_up g z (some (ci (tn T) j))) := f3.up (by omega) hvj hlr hpl.2
            refine j_istore c dX2_settle_74 (Nat.le_of_ble_eq_true rfl) rfl ?_
            refine j_iload c dX2_settle_76 rfl ?_
            refine j_iconst c (-1) dX2_settle_78 (by decide) ?_
            refine j_icmp_ne c 85 dX2_settle_79 (by decide) (fun _ => ?_) (fun h_9 => absurd h_9 (oI_ne (t := z) (by omega)))
            refine j_aload_n c dX2_settle_85 rfl ?_
            refine j_getR c fl_X2_23 dX2_settle_86 (Nat.le_of_ble_eq_true rfl) rfl rfl ?_
            refine j_iload c dX2_settle_89 rfl ?_
            refine j_iload c dX2_settle_91 rfl ?_
            refine j_aload_n c dX2_settle_93 rfl ?_
            refine j_getR c fl_X2_12 dX2_settle_94 (Nat.le_of_ble_eq_true rfl) rfl rfl ?_
            refine j_callV c kw_X2_106 (sp_put FnP.trial C2 hW f2 f3 hpl.2 (k := z) (by omega) hzn2 hvj) dX2_settle_97 rfl rfl (by decide) (Nat.le_of_ble_eq_true rfl) FnP.trial.lt0 (lf0 FnP.trial) rfl ?_
            rintro _ σ3 ⟨rfl, F3, q3, _⟩
            have g1 : ∀ q, q < 43 ∨ 49 < q → σ3 q = σ q := fun q hq => by rw [q3 q (by omega) (by omega) (by omega) (by omega)]; exact f1 q hq
            refine j_iinc c _ dX2_settle_100 rfl (by first | exact nI_1 _ | exact pk_m1 _ | rfl) rfl ?_
            refine j_iinc c _ dX2_settle_103 rfl (by first | exact nI_1 _ | exact pk_m1 _ | rfl) rfl ?_
            refine j_aload_n c dX2_settle_106 rfl ?_
            refine j_getR c fl_X2_12 dX2_settle_107 (Nat.le_of_ble_eq_true rfl) rfl rfl ?_
            refine j_iload c dX2_settle_110 rfl ?_
            refine j_callV1 c kw_X2_209 (sp_next (by rw [g1 1 (by omega)]; exact hX.1.1) hn.1 hn.2 hj3) dX2_settle_112 rfl rfl (by decide) (Nat.le_of_ble_eq_true rfl) (Nat.le_of_ble_eq_true rfl) rfl rfl ?_
            refine j_istore c dX2_settle_115 (Nat.le_of_ble_eq_true rfl) rfl ?_
            refine j_goto c 40 dX2_settle_117 (by decide) ?_
            refine ih k' (m + 1) _ σ3 _ g1 F3 hG3 (by omega) (by rw [f5, hst]) (fun j' hj' => ?_)
            by_cases ej : j' = j
            · subst ej; exact ans_own hG3 (show z < 13 by omega) (vu_at _ _ _)
            · have hlt := ci_mono hn.1 hn.2 hj3 (show j' < j by omega)
              have hvj' := ci_v hn.1 hn.2 hpl (show j' < tn T ^ tpl T i by omega)
              have hno : le3 (tls T) (ci (tn T) j') (ci (tn T) j) = false := by
                cases hl : le3 (tls T) (ci (tn T) j') (ci (tn T) j) with
                | false => rfl
                | true => have := le3_le hW hvj' hpl.2 hcl.1 hl; omega
              rw [ans_off hzn2 hno]
              exact f6 j' (by omega)
    have k0 := key 0 (Nat.zero_le _) 12 0 (ttg T i) σ1 none (fun q hq => q1 q (by omega) (by omega) (by omega) (by omega)) F1 hG (cnt_le _ _) rfl (fun j hj => by omega)
    rw [ci_0] at k0
    exact k0
  · refine j_iconst c (-1) dX2_settle_8 (by decide) ?_
    exact j_iret c r dX2_settle_9 rfl ⟨by simp [aSettle, bI_z e], hX, frXo.rfl' σ⟩
