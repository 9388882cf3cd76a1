-- ===== 09: what the questions answer, of the state =====
/-- a question's end: its answer; the reference stays -/
def qM (σ : Sg) (v : Int32) : Option PV → Sg → Prop := fun r σ' => r = some (.inl v) ∧ keepM σ σ'
theorem topB_congr {A B : Nat → Int32} {ls : Nat → List Nat} {N c : Nat} (h : ∀ o, o < N → A o = B o) (hc : c < N) : topB A ls N c = topB B ls N c := by
  unfold topB
  rw [Bool.eq_iff_iff, allU, allU]
  constructor
  · intro h1 o ho; rw [← h o ho, ← h c hc]; exact h1 o ho
  · intro h1 o ho; rw [h o ho, h c hc]; exact h1 o ho
theorem alB_congr {A B : Nat → Int32} {pl p one other : Nat} (h : ∀ o, o < 16 ^ pl → A o = B o) (hpl : pl ≤ 3) (hp : p < pl) (ho : other < 16) : alB A (16 ^ pl) p one other = alB B (16 ^ pl) p one other := by
  unfold alB
  rw [Bool.eq_iff_iff, allU, allU]
  have e : ∀ o, o < 16 ^ pl → A (rep o p other) = B (rep o p other) := fun o h1 => h _ (rep_dg (q := 0) h1 hpl hp ho).1
  constructor
  · intro h1 o h2; rw [← h o h2, ← e o h2]; exact h1 o h2
  · intro h1 o h2; rw [h o h2, e o h2]; exact h1 o h2
/-- how many poles there are at a place -/
def polN (A : Nat → Int32) (N n p : Nat) : Nat := cnt (fun c => decide (fnd (alB A N p c) (c + 1) = some c)) n
def szQ (A : Nat → Int32) (N n : Nat) : Nat → Nat
  | 0 => 1
  | p + 1 => szQ A N n p * polN A N n p
theorem polN_congr {A B : Nat → Int32} {pl p n : Nat} (h : ∀ o, o < 16 ^ pl → A o = B o) (hpl : pl ≤ 3) (hp : p < pl) (hn : n ≤ 16) : polN A (16 ^ pl) n p = polN B (16 ^ pl) n p := by
  unfold polN
  apply cnt_congr
  intro c hc
  rw [fnd_congr (fun o ho => alB_congr (one := c) (other := o) h hpl hp (by omega))]
theorem szQ_congr {A B : Nat → Int32} {pl n : Nat} (h : ∀ o, o < 16 ^ pl → A o = B o) (hpl : pl ≤ 3) (hn : n ≤ 16) : ∀ p, p ≤ pl → szQ A (16 ^ pl) n p = szQ B (16 ^ pl) n p
  | 0, _ => rfl
  | p + 1, hp => by
    unfold szQ
    rw [szQ_congr h hpl hn p (by omega), polN_congr h hpl (by omega) hn]
/-- methods that are the answer of no call -/
def idlB (tg : Nat → Option Nat) (A : Nat → Int32) (N m : Nat) : Bool := (tg m).isSome && (List.range N).all (fun c => !decide (A c = nI m))
/-- two methods fight in a call -/
def fgB (ls : Nat → List Nat) (tg : Nat → Option Nat) (call one other : Nat) : Bool := appB ls tg call one && (appB ls tg call other && (List.range 12).all (fun m => !appB ls tg call m || (!befB ls tg 0 call m one || !befB ls tg 0 call m other)))
/-- 'of', by what is asked -/
def aOf (T : TS) (f w : Nat) : Int32 := match w with
  | 0 => nI (tpl T f)
  | 1 => mkS (fun m => (ttg T f m).isSome) 12
  | 2 => nI (tn T ^ tpl T f)
  | 3 => nI (cnt (fun c => decide (rowA T f none (tru T) c = -1)) (16 ^ tpl T f))
  | 4 => nI (cnt (fun c => decide (rowA T f none 0 c = -2)) (16 ^ tpl T f))
  | 5 => kth (fun c => decide (rowA T f none 0 c = -2) && topB (rowA T f none 0) (tls T) (16 ^ tpl T f) c) (16 ^ tpl T f) (-1)
  | 6 => kth (fun c => decide (rowA T f none (tru T) c = -1) && topB (rowA T f none (tru T)) (tls T) (16 ^ tpl T f) c) (16 ^ tpl T f) (-1)
  | 7 => nI (szQ (rowA T f none (tru T)) (16 ^ tpl T f) (tn T) (tpl T f))
  | 8 => mkS (idlB (ttg T f) (rowA T f none (tru T)) (16 ^ tpl T f)) 12
  | 9 => nI (tkp T f).length
  | _ => -1
def aOfI (T : TS) (f w : Int32) : Int32 := if isN f (tnf T) && isN w 10 then aOf T f.toNatClampNeg w.toNatClampNeg else -1
/-- 'at': whether it throws, and what it tells -/
def okAt (T : TS) (f m w : Int32) : Bool := isN f (tnf T) && (isN m 12 && (ttg T f.toNatClampNeg m.toNatClampNeg).isSome) && isN w 5
def aAt (T : TS) (f m w : Nat) : Int32 := match w with
  | 0 => oI (ttg T f m)
  | 1 => tkd T f m
  | 2 => tvl T f m
  | 3 => nI (cnt (fun c => decide (rowA T f none (tru T) c = nI m)) (16 ^ tpl T f))
  | _ => nI (cnt (fun c => vcall (tn T) (tpl T f) c && appB (tls T) (ttg T f) c m) (16 ^ tpl T f))
/-- 'clash' (a = -2) and 'gap' (a = -1) -/
def aTop (T : TS) (a f k : Int32) : Int32 := if isN f (tnf T) && decide (0 ≤ k) then kth (fun c => decide (rowA T f.toNatClampNeg none 0 c = a) && topB (rowA T f.toNatClampNeg none 0) (tls T) (16 ^ tpl T f.toNatClampNeg) c) (16 ^ tpl T f.toNatClampNeg) k else -1
def aFight (T : TS) (f x y : Int32) : Int32 := if isN f (tnf T) && (isN x 12 && (ttg T f.toNatClampNeg x.toNatClampNeg).isSome) && (isN y 12 && (ttg T f.toNatClampNeg y.toNatClampNeg).isSome) && !decide (x = y) then oI (fnd (fun c => vcall (tn T) (tpl T f.toNatClampNeg) c && fgB (tls T) (ttg T f.toNatClampNeg) c x.toNatClampNeg y.toNatClampNeg) (16 ^ tpl T f.toNatClampNeg)) else -1
def aPole (T : TS) (f p k : Int32) : Int32 := if isN f (tnf T) && (isN p (tpl T f.toNatClampNeg) && isN k (tn T)) then oI (fnd (alB (rowA T f.toNatClampNeg none (tru T)) (16 ^ tpl T f.toNatClampNeg) p.toNatClampNeg k.toNatClampNeg) (k.toNatClampNeg + 1)) else -1
theorem ttg_lt {T : TS} (hW : WF T) {f m t : Nat} (hf : f < tnf T) (h : ttg T f m = some t) : t < 4096 := vcall_lt (hW.2.2.2.2.2.1 f m t hf h).2.1 (hW.2.2.2.2.1 f hf).2
