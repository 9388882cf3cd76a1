-- ===== 05: what the two objects hold, as one mathematical state; loops =====
theorem loopN {P : Nat → Prop} (N : Nat) (hx : P N) (hs : ∀ k, k < N → P (k + 1) → P k) : ∀ k, k ≤ N → P k := by
  have key : ∀ j k, k + j = N → P k := by
    intro j
    induction j with
    | zero => intro k hk; rw [show k = N by omega]; exact hx
    | succ j ih => intro k hk; exact hs k (by omega) (ih (k + 1) (by omega))
  exact fun k hk => key (N - k) k (by omega)
theorem rtT {σ : Sg} {b : Bool} (h : b = true) : rt σ (.inl (bI b)) (some (.inl (nI 1))) σ := by subst h; exact ⟨rfl, rfl⟩
theorem rtF {σ : Sg} {b : Bool} (h : b = false) : rt σ (.inl (bI b)) (some (.inl (nI 0))) σ := by subst h; exact ⟨rfl, rfl⟩
/-- a number within 0 .. n-1 -/
def isN (x : Int32) (n : Nat) : Bool := decide (0 ≤ x.toInt) && decide (x.toInt < n)
theorem isN_nI {j n : Nat} (hj : j < 2 ^ 31) : isN (nI j) n = decide (j < n) := by
  unfold isN
  rw [nI_toInt hj]
  simp
theorem isN_of {x : Int32} {n : Nat} (h : isN x n = true) : ∃ j, j < n ∧ j < 2 ^ 31 ∧ x = nI j := by
  unfold isN at h
  simp only [Bool.and_eq_true, decide_eq_true_eq] at h
  have h0 : ¬ x < 0 := by
    intro h1
    have h2 : x.toInt < 0 := Int32.lt_iff_toInt_lt.mp h1
    omega
  obtain ⟨j, hj, rfl⟩ := nI_of h0
  rw [nI_toInt hj] at h
  exact ⟨j, by omega, hj, rfl⟩
theorem isN_neg {x : Int32} {n : Nat} (h : x < 0) : isN x n = false := by
  have h2 : x.toInt < 0 := Int32.lt_iff_toInt_lt.mp h
  unfold isN
  simp
  omega
/-- the mathematical state: classes and their LISTS, functions, places, what methods are for, KIND, VALUE, RULE, KEPT, HITS, MISSES -/
abbrev TS : Type := Nat × (Nat → List Nat) × Nat × (Nat → Nat) × (Nat → Nat → Option Nat) × (Nat → Nat → Int32) × (Nat → Nat → Int32) × Nat × (Nat → List Nat) × Int32 × Int32
abbrev tn (T : TS) : Nat := T.1
abbrev tls (T : TS) : Nat → List Nat := T.2.1
abbrev tnf (T : TS) : Nat := T.2.2.1
abbrev tpl (T : TS) : Nat → Nat := T.2.2.2.1
abbrev ttg (T : TS) : Nat → Nat → Option Nat := T.2.2.2.2.1
abbrev tkd (T : TS) : Nat → Nat → Int32 := T.2.2.2.2.2.1
abbrev tvl (T : TS) : Nat → Nat → Int32 := T.2.2.2.2.2.2.1
abbrev tru (T : TS) : Nat := T.2.2.2.2.2.2.2.1
abbrev tkp (T : TS) : Nat → List Nat := T.2.2.2.2.2.2.2.2.1
abbrev thi (T : TS) : Int32 := T.2.2.2.2.2.2.2.2.2.1
abbrev tmi (T : TS) : Int32 := T.2.2.2.2.2.2.2.2.2.2
def up (ls : Nat → List Nat) (c d : Nat) : Bool := decide (d ∈ ls c)
def rk (ls : Nat → List Nat) (c d : Nat) : Nat := (ls c).idxOf d
/-- at each place one is of the other -/
def le3 (ls : Nat → List Nat) (a b : Nat) : Bool := up ls (dg a 0) (dg b 0) && up ls (dg a 1) (dg b 1) && up ls (dg a 2) (dg b 2)
/-- at the first place at which they differ, one's class stands ahead in the list of the call's -/
def ahd (ls : Nat → List Nat) (call a b : Nat) : Bool :=
  if dg a 0 ≠ dg b 0 then decide (rk ls (dg call 0) (dg a 0) < rk ls (dg call 0) (dg b 0))
  else if dg a 1 ≠ dg b 1 then decide (rk ls (dg call 1) (dg a 1) < rk ls (dg call 1) (dg b 1))
  else if dg a 2 ≠ dg b 2 then decide (rk ls (dg call 2) (dg a 2) < rk ls (dg call 2) (dg b 2))
  else false
def oI (o : Option Nat) : Int32 := match o with
  | none => -1
  | some t => nI t
/-- a call of a function with pl places, n classes -/
def vcall (n pl c : Nat) : Bool := decide (c < 16 ^ pl) && (decide (dg c 0 < n) && (decide (dg c 1 < n) && decide (dg c 2 < n)))
/-- the methods that apply -/
def appB (ls : Nat → List Nat) (tg : Nat → Option Nat) (call m : Nat) : Bool := match tg m with
  | none => false
  | some t => decide (m < 13) && le3 ls call t
/-- which of two is ahead, by a rule -/
def befB (ls : Nat → List Nat) (tg : Nat → Option Nat) (by1 : Nat) (call m o : Nat) : Bool := match tg m, tg o with
  | some a, some b => if by1 = 0 then le3 ls a b else ahd ls call a b
  | _, _ => false
/-- the first of some methods, that is ahead of all others; -1: there are none, -2: there is none such -/
def fstI (S : Nat → Bool) (R : Nat → Nat → Bool) : Int32 :=
  if (List.range 13).any S then
    match (List.range 13).find? (fun m => S m && (List.range 13).all (fun o => !S o || (o == m || R m o))) with
    | some m => nI m
    | none => -2
  else -1
def ansI (ls : Nat → List Nat) (tg : Nat → Option Nat) (by1 call : Nat) : Int32 := fstI (appB ls tg call) (befB ls tg by1 call)
/-- a function's methods with one more -/
def tgx (tg : Nat → Option Nat) (mo : Option (Nat × Nat)) (m : Nat) : Option Nat := match mo with
  | none => tg m
  | some (w, k) => if m = k then some w else tg m
/-- what is always so of a state -/
def WF (T : TS) : Prop :=
  (1 ≤ tn T ∧ tn T ≤ 16) ∧
  (∀ c, c < tn T → (tls T c).Nodup ∧ c ∈ tls T c ∧ (∀ d, d ∈ tls T c → d ≤ c) ∧ (∀ d e, d ∈ tls T c → e ∈ tls T d → e ∈ tls T c)) ∧
  tls T 0 = [0] ∧
  tnf T ≤ 4 ∧ (∀ f, f < tnf T → 1 ≤ tpl T f ∧ tpl T f ≤ 3) ∧
  (∀ f m t, f < tnf T → ttg T f m = some t → m < 12 ∧ vcall (tn T) (tpl T f) t = true ∧ (∀ m', ttg T f m' = some t → m' = m)) ∧
  tru T < 2 ∧
  (∀ f, f < 4 → (tkp T f).length ≤ 6 ∧ (tnf T ≤ f → tkp T f = [])) ∧
  (∀ f c, f < tnf T → c ∈ tkp T f → vcall (tn T) (tpl T f) c = true)
/-- each method's KIND is one -/
def KdOK (T : TS) : Prop := ∀ f m t, f < tnf T → ttg T f m = some t → ∃ j, j < 4 ∧ tkd T f m = nI j
/-- the reference holds the state T, and mo as a method more -/
def InvM (T : TS) (mo : Option (Nat × Nat)) (σ : Sg) : Prop :=
  σ 50 1 = nI (tn T) ∧
  (∀ c, c < tn T → ∀ d, d < 32 → bt (σ 51 c) d = up (tls T) c d) ∧
  (∀ c, c < tn T → ∀ k d, (tls T c)[k]? = some d → σ 52 (16 * c + k) = nI d) ∧
  (∀ c, c < tn T → σ 53 c = nI (tls T c).length) ∧
  (∀ c d, c < tn T → d ∈ tls T c → σ 54 (16 * c + d) = nI (rk (tls T) c d)) ∧
  σ 50 6 = nI (tnf T) ∧
  (∀ f, f < tnf T → σ 55 f = nI (tpl T f)) ∧
  (∀ f m, f < tnf T → m < 12 → σ 56 (12 * f + m) = oI (ttg T f m)) ∧
  (∀ f m, f < 4 → m < 12 → σ 57 (12 * f + m) = tkd T f m ∧ σ 58 (12 * f + m) = tvl T f m) ∧
  σ 50 11 = nI (tru T) ∧
  (∀ f, f < 4 → σ 60 f = nI (tkp T f).length) ∧
  (∀ f k c, f < tnf T → (tkp T f)[k]? = some c → σ 59 (6 * f + k) = nI c) ∧
  σ 50 14 = thi T ∧ σ 50 15 = tmi T ∧
  σ 50 19 = oI (mo.map (fun x => x.1)) ∧
  (∀ w k, mo = some (w, k) → σ 50 20 = nI k)
/-- two states are alike at the reference's places but some -/
def frM (σ σ' : Sg) : Prop := ∀ q, q < 50 → σ' q = σ q
def frX (σ σ' : Sg) : Prop := ∀ q, 50 ≤ q → σ' q = σ q
