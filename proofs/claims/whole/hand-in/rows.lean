section
/-! ===== folds ===== -/
def ag_fd {σ : Type} (f : Nat → σ → σ) (s : σ) : Nat → σ
  | 0 => s
  | n + 1 => f n (ag_fd f s n)
theorem ag_loop {σ : Type} (W : Nat → Nat → σ → Prop) (f : Nat → σ → σ) (e : Nat) (s0 : σ)
    (hx : ∀ n, W (n + 1) e (ag_fd f s0 e))
    (hs : ∀ n i s, i < e → s = ag_fd f s0 i → (∀ s', f i s = s' → W n (i + 1) s') → W (n + 1) i s) : ∃ n, W n 0 s0 :=
  loop_0 W (fun i s => s = ag_fd f s0 i) e s0 rfl
    (fun n s h => by have h' : s = ag_fd f s0 e := h; rw [h']; exact hx n)
    (fun n i s hi h k => hs n i s hi h (fun s' hs' => by
      rw [← hs']
      exact k (f i s) (congrArg (f i) h)))
theorem ag_fix {σ : Type} (R : σ → σ) (s : σ) (i : Nat) (h : R (ag_fd (fun _ => R) s i) = ag_fd (fun _ => R) s i) : ∀ n, i ≤ n → ag_fd (fun _ => R) s n = ag_fd (fun _ => R) s i := by
  intro n
  induction n with
  | zero =>
    intro hn
    have e : i = 0 := by omega
    rw [e]
  | succ n ih =>
    intro hn
    by_cases e : i = n + 1
    · rw [e]
    · show R (ag_fd (fun _ => R) s n) = _
      rw [ih (by omega), h]
theorem ag_inv {σ : Type} (I : Nat → σ → Prop) (f : Nat → σ → σ) (s : σ) (h0 : I 0 s) : ∀ n, (∀ i s, i < n → I i s → I (i + 1) (f i s)) → I n (ag_fd f s n) := by
  intro n
  induction n with
  | zero => exact fun _ => h0
  | succ n ih =>
    intro hs
    exact hs n _ (by omega) (ih (fun i s hi hI => hs i s (by omega) hI))
theorem ag_rel {σ τ : Type} (R : σ → τ → Prop) (f : Nat → σ → σ) (g : Nat → τ → τ) (s : σ) (t : τ) (h0 : R s t) : ∀ n, (∀ i s t, i < n → R s t → R (f i s) (g i t)) → R (ag_fd f s n) (ag_fd g t n) := by
  intro n
  induction n with
  | zero => exact fun _ => h0
  | succ n ih =>
    intro hs
    exact hs n _ _ (by omega) (ih (fun i s t hi hR => hs i s t (by omega) hR))
/-! ===== bits (pasted rows first) ===== -/
def bt (x : Int32) (i : Nat) : Bool := x.toBitVec.getLsbD i
theorem b_ext {x y : Int32} (h : ∀ i, i < 32 → bt x i = bt y i) : x = y := Int32.toBitVec_inj.mp (BitVec.eq_of_getLsbD_eq (fun i hi => h i hi))
theorem b_or (x y : Int32) (i : Nat) : bt (x ||| y) i = (bt x i || bt y i) := by unfold bt; rw [Int32.toBitVec_or, BitVec.getLsbD_or]
theorem b_and (x y : Int32) (i : Nat) : bt (x &&& y) i = (bt x i && bt y i) := by unfold bt; rw [Int32.toBitVec_and, BitVec.getLsbD_and]
theorem b_xor (x y : Int32) (i : Nat) : bt (x ^^^ y) i = (bt x i ^^ bt y i) := by unfold bt; rw [Int32.toBitVec_xor, BitVec.getLsbD_xor]
theorem b_m1 : ∀ i, i < 32 → bt (-1) i = true := by decide +kernel
theorem b_0 (i : Nat) : bt 0 i = false := BitVec.getLsbD_zero
theorem s_l : ∀ n, n < 32 → ((nI n &&& 31).toBitVec.smod 32).toNat = n := by decide +kernel
theorem b_sshr (n : Nat) (hn : n < 32) (x : Int32) {i : Nat} (hi : i < 32) : bt (x >>> (nI n &&& 31)) i = if n + i < 32 then bt x (n + i) else bt x 31 := by
  unfold bt
  rw [Int32.toBitVec_shiftRight]
  show (x.toBitVec.sshiftRight ((nI n &&& 31).toBitVec.smod 32).toNat).getLsbD i = _
  rw [s_l n hn, BitVec.getLsbD_sshiftRight, BitVec.msb_eq_getLsbD_last]
  simp [hi]
theorem nx_and (a b : Nat) : nI a &&& nI b = nI (a &&& b) := by
  apply Int32.toBitVec_inj.1
  show BitVec.ofNat 32 a &&& BitVec.ofNat 32 b = BitVec.ofNat 32 (a &&& b)
  apply BitVec.eq_of_getLsbD_eq
  intro i hi
  simp [hi]
theorem nx_or (a b : Nat) : nI a ||| nI b = nI (a ||| b) := by
  apply Int32.toBitVec_inj.1
  show BitVec.ofNat 32 a ||| BitVec.ofNat 32 b = BitVec.ofNat 32 (a ||| b)
  apply BitVec.eq_of_getLsbD_eq
  intro i hi
  simp [hi]
theorem ag_b1 : ∀ i, i < 32 → bt 1 i = decide (i = 0) := by decide +kernel
theorem ag_sb {a b : Int32} : b &&& a = a ↔ ∀ i, i < 32 → bt a i = true → bt b i = true := by
  constructor
  · intro h i _ ha
    have t : bt (b &&& a) i = bt a i := by rw [h]
    rw [b_and, ha] at t
    simpa using t
  · intro h
    apply b_ext
    intro i hi
    rw [b_and]
    cases ha : bt a i
    · simp
    · simp [h i hi ha]
theorem ag_A (a b : Int32) : a &&& (b ^^^ (-1)) = 0 ↔ b &&& a = a := by
  rw [ag_sb]
  constructor
  · intro h i hi ha
    have t : bt (a &&& (b ^^^ (-1))) i = bt 0 i := by rw [h]
    rw [b_and, b_xor, b_m1 i hi, b_0, ha] at t
    simpa using t
  · intro h
    apply b_ext
    intro i hi
    rw [b_and, b_xor, b_m1 i hi, b_0]
    cases ha : bt a i
    · simp
    · simp [h i hi ha]
theorem ag_one (x : Int32) : x &&& 1 = 1 ↔ bt x 0 = true := by
  constructor
  · intro h
    have t : bt (x &&& 1) 0 = bt 1 0 := by rw [h]
    rw [b_and, ag_b1 0 (by omega)] at t
    simpa using t
  · intro h
    apply b_ext
    intro i hi
    rw [b_and, ag_b1 i hi]
    by_cases e : i = 0
    · rw [e, h]; rfl
    · simp [e]
theorem ag_zo (x : Int32) (h : ¬ x &&& 1 = 1) : x &&& 1 = 0 := by
  rw [ag_one] at h
  apply b_ext
  intro i hi
  rw [b_and, ag_b1 i hi, b_0]
  by_cases e : i = 0
  · rw [e]; simpa using h
  · simp [e]
theorem ag_shl : ∀ f, f < 12 → (1 : Int32) <<< (nI f &&& 31) = nI (2 ^ f) := by decide +kernel
theorem ag_shb : ∀ f, f < 12 → ∀ i, i < 32 → bt ((1 : Int32) <<< (nI f &&& 31)) i = decide (i = f) := by decide +kernel
/-! ===== sets ===== -/
def ag_has (s f : Int32) : Bool := decide ((s >>> (f &&& 31)) &&& 1 = 1)
theorem ag_hasb (s : Int32) (f : Nat) (hf : f < 32) : ag_has s (nI f) = bt s f := by
  rw [Bool.eq_iff_iff]
  unfold ag_has
  rw [decide_eq_true_iff, ag_one, b_sshr f hf s (by omega)]
  simp [hf]
theorem ag_has_mono {s t g : Int32} (h : t &&& s = s) (hs : ag_has s g = true) : ag_has t g = true := by
  unfold ag_has at hs ⊢
  rw [decide_eq_true_iff, ag_one] at hs ⊢
  rw [← h, Int32.shiftRight_and, b_and] at hs
  cases e : bt (t >>> (g &&& 31)) 0
  · rw [e] at hs; exact absurd hs (by simp)
  · rfl
def ag_gv (p : Nat → Int32) : Int32 := ag_fd (fun f s => if p f = 0 then s else s ||| ((1 : Int32) <<< (nI f &&& 31))) 0 12
def ag_rd (c : Nat) (nd yl : Nat → Int32) (s : Int32) : Int32 := ag_fd (fun r s => if s &&& nd r = nd r then s ||| ((1 : Int32) <<< (yl r &&& 31)) else s) s c
def ag_rc (c : Nat) (nd yl : Nat → Int32) (s : Int32) : Int32 := ag_fd (fun _ => ag_rd c nd yl) s 12
def ag_sup (c : Nat) (g : Int32) (nd yl : Nat → Int32) (s : Int32) : Bool := ag_has (ag_rc c nd yl s) g
def ag_sz (s : Int32) : Int32 := ag_fd (fun f z => if ag_has s (nI f) = true then z + 1 else z) 0 12
def ag_cost (p : Nat → Int32) (s : Int32) : Int32 := ag_fd (fun f z => if ag_has s (nI f) = true then z + p f else z) 0 12
def ag_wo (s : Int32) (f : Nat) : Int32 := s &&& (((1 : Int32) <<< (nI f &&& 31)) ^^^ (-1))
/-- no fact below n of the set can be left out -/
def ag_nl (c : Nat) (g : Int32) (nd yl : Nat → Int32) (s : Int32) : Nat → Bool
  | 0 => true
  | n + 1 => ag_nl c g nd yl s n && !(ag_has s (nI n) && ag_sup c g nd yl (ag_wo s n))
def ag_lst (c : Nat) (g : Int32) (nd yl : Nat → Int32) (s : Int32) : Bool := ag_sup c g nd yl s && ag_nl c g nd yl s 12
theorem ag_nl_false (c : Nat) (g : Int32) (nd yl : Nat → Int32) (s : Int32) (f : Nat) (h1 : ag_has s (nI f) = true) (h2 : ag_sup c g nd yl (ag_wo s f) = true) : ∀ n, f < n → ag_nl c g nd yl s n = false := by
  intro n
  induction n with
  | zero => intro h; omega
  | succ n ih =>
    intro h
    show (ag_nl c g nd yl s n && !(ag_has s (nI n) && ag_sup c g nd yl (ag_wo s n))) = false
    by_cases e : f = n
    · rw [← e, h1, h2]; simp
    · rw [ih (by omega)]; rfl
/-! more facts reach no less -/
theorem ag_sub_tr {a b c : Int32} (h : b &&& a = a) (k : c &&& b = b) : c &&& a = a := by
  rw [ag_sb] at h k ⊢
  exact fun i hi ha => k i hi (h i hi ha)
theorem ag_sub_or {a b m : Int32} (h : b &&& a = a) : (b ||| m) &&& (a ||| m) = a ||| m := by
  rw [ag_sb] at h ⊢
  intro i hi
  rw [b_or, b_or]
  intro ha
  cases ea : bt a i
  · rw [ea] at ha
    have hm : bt m i = true := by simpa using ha
    rw [hm]; simp
  · rw [h i hi ea]; rfl
theorem ag_sub_or1 {a b m : Int32} (h : b &&& a = a) : (b ||| m) &&& a = a := by
  rw [ag_sb] at h ⊢
  intro i hi ha
  rw [b_or, h i hi ha]; rfl
theorem ag_rd_mono (c : Nat) (nd yl : Nat → Int32) {s t : Int32} (h : t &&& s = s) : ag_rd c nd yl t &&& ag_rd c nd yl s = ag_rd c nd yl s := by
  unfold ag_rd
  refine ag_rel (fun s t : Int32 => t &&& s = s) _ _ s t h c ?_
  intro i s t _ hst
  try dsimp only at hst ⊢
  by_cases a : s &&& nd i = nd i
  · rw [if_pos a, if_pos (ag_sub_tr a hst)]
    exact ag_sub_or hst
  · rw [if_neg a]
    by_cases b : t &&& nd i = nd i
    · rw [if_pos b]; exact ag_sub_or1 hst
    · rw [if_neg b]; exact hst
theorem ag_rc_mono (c : Nat) (nd yl : Nat → Int32) {s t : Int32} (h : t &&& s = s) : ag_rc c nd yl t &&& ag_rc c nd yl s = ag_rc c nd yl s := by
  unfold ag_rc
  exact ag_rel (fun s t : Int32 => t &&& s = s) _ _ s t h 12 (fun _ s t _ hst => ag_rd_mono c nd yl hst)
theorem ag_sup_mono (c : Nat) (g : Int32) (nd yl : Nat → Int32) {s t : Int32} (h : t &&& s = s) (hs : ag_sup c g nd yl s = true) : ag_sup c g nd yl t = true :=
  ag_has_mono (ag_rc_mono c nd yl h) hs
/-! the given facts, as a number below 4096, and how many they are -/
theorem ag_gvN (p : Nat → Int32) : ∃ a, a < 4096 ∧ ag_gv p = nI a := by
  unfold ag_gv
  refine ag_inv (fun _ s => ∃ a, a < 4096 ∧ s = nI a) _ 0 ⟨0, by omega, nI_0.symm⟩ 12 ?_
  intro i s hi h
  obtain ⟨a, ha, rfl⟩ := h
  try dsimp only
  by_cases z : p i = 0
  · rw [if_pos z]; exact ⟨a, ha, rfl⟩
  · rw [if_neg z, ag_shl i hi, nx_or]
    have h2 : 2 ^ i < 2 ^ 12 := Nat.pow_lt_pow_right (by decide) hi
    exact ⟨a ||| 2 ^ i, Nat.or_lt_two_pow (n := 12) ha h2, rfl⟩
theorem ag_gvb (p : Nat → Int32) (i : Nat) (hi : i < 12) : bt (ag_gv p) i = !decide (p i = 0) := by
  have h := ag_inv (fun n s => bt s i = (decide (i < n) && !decide (p i = 0))) (fun f s => if p f = 0 then s else s ||| ((1 : Int32) <<< (nI f &&& 31))) 0 (by show bt 0 i = (decide (i < 0) && !decide (p i = 0)); rw [b_0]; simp) 12 (by
    intro f s hf h
    try dsimp only at h ⊢
    by_cases z : p f = 0
    · rw [if_pos z, h]
      by_cases e : i = f
      · rw [e]; simp [z]
      · have e2 : decide (i < f + 1) = decide (i < f) := by rw [decide_eq_decide]; omega
        rw [e2]
    · rw [if_neg z, b_or, h, ag_shb f hf i (by omega)]
      by_cases e : i = f
      · rw [e]; simp [z]
      · have e2 : decide (i < f + 1) = decide (i < f) := by rw [decide_eq_decide]; omega
        rw [e2]
        simp [e])
  have e : bt (ag_gv p) i = (decide (i < 12) && !decide (p i = 0)) := h
  rw [e]
  simp [hi]
def ag_cn (p : Nat → Int32) : Nat → Nat
  | 0 => 0
  | n + 1 => ag_cn p n + (if p n = 0 then 0 else 1)
theorem ag_cn_s (p : Nat → Int32) (n : Nat) : ag_cn p (n + 1) = ag_cn p n + (if p n = 0 then 0 else 1) := rfl
theorem ag_szg (p : Nat → Int32) : ag_sz (ag_gv p) = nI (ag_cn p 12) := by
  have h := ag_inv (fun n z => z = nI (ag_cn p n)) (fun f z => if ag_has (ag_gv p) (nI f) = true then z + 1 else z) 0 rfl 12 (by
    intro f z hf h
    try dsimp only at h ⊢
    rw [ag_hasb _ f (by omega), ag_gvb p f hf, h, ag_cn_s]
    by_cases e : p f = 0
    · rw [if_pos e]; simp [e]
    · rw [if_neg e]; simp [e, nI_1])
  exact h
theorem ag_cn_hi (p : Nat → Int32) (f : Nat) (x : Int32) : ∀ n, n ≤ f → ag_cn (upd p f x) n = ag_cn p n := by
  intro n
  induction n with
  | zero => intro _; rfl
  | succ n ih =>
    intro h
    have e : upd p f x n = p n := if_neg (by omega)
    rw [ag_cn_s (upd p f x) n, ag_cn_s p n, ih (by omega), e]
theorem ag_cn_lo (p : Nat → Int32) (f : Nat) (x : Int32) : ∀ n, f < n → ag_cn (upd p f x) n + (if p f = 0 then 0 else 1) = ag_cn p n + (if x = 0 then 0 else 1) := by
  intro n
  induction n with
  | zero => intro h; omega
  | succ n ih =>
    intro h
    rw [ag_cn_s (upd p f x) n, ag_cn_s p n]
    by_cases e : f = n
    · have e2 : upd p f x n = x := if_pos e.symm
      rw [ag_cn_hi p f x n (by omega), e2, e]
      exact Nat.add_right_comm _ _ _
    · have e2 : upd p f x n = p n := if_neg (fun q => e q.symm)
      have i := ih (by omega)
      rw [e2, Nat.add_right_comm, i, Nat.add_right_comm]
/-! costs are small, and no number of a set is -4 -/
theorem ag_n4 {i : Nat} (h : i < 2 ^ 31) : ¬ nI i = -4 := by
  intro e
  have t := congrArg Int32.toInt e
  rw [nI_toInt h] at t
  have h4 : (-4 : Int32).toInt = -4 := by decide +kernel
  rw [h4] at t
  omega
theorem ag_costN (p : Nat → Int32) (hp : ∀ j, ∃ q, q ≤ 20 ∧ p j = nI q) (s : Int32) : ∃ z, z ≤ 240 ∧ ag_cost p s = nI z := by
  have h := ag_inv (fun n z => ∃ k, k ≤ 20 * n ∧ z = nI k) (fun f z => if ag_has s (nI f) = true then z + p f else z) 0 ⟨0, by omega, nI_0.symm⟩ 12 (by
    intro f z hf h
    obtain ⟨k, hk, rfl⟩ := h
    obtain ⟨q, hq, e⟩ := hp f
    try dsimp only
    by_cases b : ag_has s (nI f) = true
    · rw [if_pos b, e, nI_add]; exact ⟨k + q, by omega, rfl⟩
    · rw [if_neg b]; exact ⟨k, by omega, rfl⟩)
  exact h
theorem ag_le_of_sub {i a : Nat} (hi : i < 4096) (ha : a < 4096) (h : nI i &&& nI a = nI i) : i ≤ a := by
  have ht : i &&& a ≤ a := Nat.and_le_right
  rw [nx_and, nI_eq (Nat.lt_of_le_of_lt ht (by omega)) (by omega)] at h
  rw [h] at ht
  exact ht
/-! ===== the answers ===== -/
def ag_sLeast (c : Nat) (g : Int32) (nd yl : Nat → Int32) (a : Int32) (i : Nat) (z : Int32) : Int32 :=
  if nI i &&& a = nI i ∧ ag_lst c g nd yl (nI i) = true then z + 1 else z
def ag_sUse (c : Nat) (g : Int32) (nd yl : Nat → Int32) (a : Int32) (i : Nat) (z : Int32) : Int32 :=
  if nI i &&& a = nI i ∧ ag_lst c g nd yl (nI i) = true then z ||| nI i else z
def ag_sCheap (c : Nat) (g : Int32) (p nd yl : Nat → Int32) (a : Int32) (i : Nat) (z : Int32) : Int32 :=
  if nI i &&& a = nI i ∧ ag_sup c g nd yl (nI i) = true ∧ (z = -4 ∨ ag_cost p (nI i) < z) then ag_cost p (nI i) else z
def ag_sSmall (c : Nat) (g : Int32) (nd yl : Nat → Int32) (a : Int32) (i : Nat) (z : Int32) : Int32 :=
  if nI i &&& a = nI i ∧ ag_sup c g nd yl (a &&& (nI i ^^^ (-1))) = false ∧ (z = -4 ∨ ag_sz (nI i) < z) then ag_sz (nI i) else z
def ag_sVit (c : Nat) (g : Int32) (nd yl : Nat → Int32) (a : Int32) (i : Nat) (z : Int32) : Int32 :=
  if nI i &&& a = nI i ∧ ag_sup c g nd yl (nI i) = true then z &&& nI i else z
def ag_sVitY (c : Nat) (g : Int32) (nd yl : Nat → Int32) (a : Int32) (i : Nat) (z : Int32 × Int32) : Int32 × Int32 :=
  if nI i &&& a = nI i ∧ ag_sup c g nd yl (nI i) = true then (z.1 &&& nI i, 1) else z
def ag_sBX (c : Nat) (g : Int32) (p nd yl : Nat → Int32) (a w : Int32) (i : Nat) (z : Int32 × Int32) : Int32 × Int32 :=
  if nI i &&& w = w ∧ nI i &&& a = nI i ∧ ag_sup c g nd yl (a &&& (nI i ^^^ (-1))) = false ∧ (z.1 = -4 ∨ ag_cost p (nI i) < z.2) then (nI i, ag_cost p (nI i)) else z
def ag_sBY (c : Nat) (g : Int32) (p nd yl : Nat → Int32) (a w : Int32) (i : Nat) (z : Int32 × Int32) : Int32 × Int32 :=
  if nI i &&& w = w ∧ ag_cost p (nI i) < z.2 ∧ nI i &&& a = nI i ∧ ag_sup c g nd yl (a &&& (nI i ^^^ (-1))) = false then (nI i, ag_cost p (nI i)) else z
def ag_least (c : Nat) (g : Int32) (p nd yl : Nat → Int32) : Int32 := ag_fd (ag_sLeast c g nd yl (ag_gv p)) 0 4096
def ag_use (c : Nat) (g : Int32) (p nd yl : Nat → Int32) : Int32 := ag_fd (ag_sUse c g nd yl (ag_gv p)) 0 4096
def ag_cheap (c : Nat) (g : Int32) (p nd yl : Nat → Int32) : Int32 := ag_fd (ag_sCheap c g p nd yl (ag_gv p)) (-4) 4096
def ag_small (c : Nat) (g : Int32) (p nd yl : Nat → Int32) : Int32 := ag_fd (ag_sSmall c g nd yl (ag_gv p)) (-4) 4096
def ag_vit (c : Nat) (g : Int32) (p nd yl : Nat → Int32) : Int32 := if ag_sup c g nd yl (ag_gv p) = true then ag_fd (ag_sVit c g nd yl (ag_gv p)) (ag_gv p) 4096 else 0
def ag_best (c : Nat) (g : Int32) (p nd yl : Nat → Int32) (w : Int32) : Int32 := (ag_fd (ag_sBX c g p nd yl (ag_gv p) w) (-4, 0) 4096).1
/-- beyond the greatest subset nothing is counted -/
theorem ag_cut {σ : Type} (f : Nat → σ → σ) (s : σ) (p : Nat → Int32) (a : Nat) (ha : a < 4096) (e : ag_gv p = nI a) (h : ∀ i s, ¬ nI i &&& ag_gv p = nI i → f i s = s) : ag_fd f s 4096 = ag_fd f s (a + 1) := by
  have h1 : ∀ n, a + 1 ≤ n → n ≤ 4096 → ag_fd f s n = ag_fd f s (a + 1) := by
    intro n
    induction n with
    | zero => intro hn; omega
    | succ n ih =>
      intro hn hm
      by_cases q : a = n
      · rw [q]
      · show f n (ag_fd f s n) = _
        rw [h n _ (fun z => by rw [e] at z; exact absurd (ag_le_of_sub (by omega) ha z) (by omega)), ih (by omega) (by omega)]
  exact h1 4096 (by omega) (by omega)
theorem ag_leastY (c : Nat) (g : Int32) (p nd yl : Nat → Int32) (a : Nat) (ha : a < 4096) (e : ag_gv p = nI a) : ag_least c g p nd yl = ag_fd (ag_sLeast c g nd yl (ag_gv p)) 0 (a + 1) :=
  ag_cut _ _ p a ha e (fun i s h => if_neg (fun z => h z.1))
theorem ag_useY (c : Nat) (g : Int32) (p nd yl : Nat → Int32) (a : Nat) (ha : a < 4096) (e : ag_gv p = nI a) : ag_use c g p nd yl = ag_fd (ag_sUse c g nd yl (ag_gv p)) 0 (a + 1) :=
  ag_cut _ _ p a ha e (fun i s h => if_neg (fun z => h z.1))
theorem ag_cheapY (c : Nat) (g : Int32) (p nd yl : Nat → Int32) (a : Nat) (ha : a < 4096) (e : ag_gv p = nI a) : ag_cheap c g p nd yl = ag_fd (ag_sCheap c g p nd yl (ag_gv p)) (-4) (a + 1) :=
  ag_cut _ _ p a ha e (fun i s h => if_neg (fun z => h z.1))
theorem ag_smallY (c : Nat) (g : Int32) (p nd yl : Nat → Int32) (a : Nat) (ha : a < 4096) (e : ag_gv p = nI a) : ag_small c g p nd yl = ag_fd (ag_sSmall c g nd yl (ag_gv p)) (-4) (a + 1) :=
  ag_cut _ _ p a ha e (fun i s h => if_neg (fun z => h z.1))
theorem ag_bestY (c : Nat) (g : Int32) (p nd yl : Nat → Int32) (w : Int32) (hp : ∀ j, ∃ q, q ≤ 20 ∧ p j = nI q) (a : Nat) (ha : a < 4096) (e : ag_gv p = nI a) : ag_best c g p nd yl w = (ag_fd (ag_sBY c g p nd yl (ag_gv p) w) (-4, 1000) (a + 1)).1 := by
  unfold ag_best
  rw [ag_cut (ag_sBX c g p nd yl (ag_gv p) w) (-4, 0) p a ha e (fun i s h => if_neg (fun z => h z.2.1))]
  have h := ag_rel (fun x y : Int32 × Int32 => x.1 = y.1 ∧ ((x.1 = -4 ∧ y.2 = 1000) ∨ (¬ x.1 = -4 ∧ x.2 = y.2))) (ag_sBX c g p nd yl (ag_gv p) w) (ag_sBY c g p nd yl (ag_gv p) w) (-4, 0) (-4, 1000) ⟨rfl, Or.inl ⟨rfl, rfl⟩⟩ (a + 1) (by
    intro i x y hi h
    obtain ⟨x1, x2⟩ := x
    obtain ⟨y1, y2⟩ := y
    try dsimp only at h
    obtain ⟨h1, h2⟩ := h
    obtain ⟨z, hz, ez⟩ := ag_costN p hp (nI i)
    have hc : (x1 = -4 ∨ ag_cost p (nI i) < x2) ↔ ag_cost p (nI i) < y2 := by
      rcases h2 with ⟨a1, a2⟩ | ⟨a1, a2⟩
      · rw [a2, ez]
        exact ⟨fun _ => nI_lt (b := 1000) (by omega) (by decide), fun _ => Or.inl a1⟩
      · rw [a2]
        exact ⟨fun q => q.resolve_left a1, Or.inr⟩
    unfold ag_sBX ag_sBY
    try dsimp only
    by_cases q : nI i &&& w = w ∧ ag_cost p (nI i) < y2 ∧ nI i &&& ag_gv p = nI i ∧ ag_sup c g nd yl (ag_gv p &&& (nI i ^^^ (-1))) = false
    · have q' : nI i &&& w = w ∧ nI i &&& ag_gv p = nI i ∧ ag_sup c g nd yl (ag_gv p &&& (nI i ^^^ (-1))) = false ∧ (x1 = -4 ∨ ag_cost p (nI i) < x2) := ⟨q.1, q.2.2.1, q.2.2.2, hc.mpr q.2.1⟩
      rw [if_pos q, if_pos q']
      exact ⟨rfl, Or.inr ⟨ag_n4 (by omega), rfl⟩⟩
    · have q' : ¬ (nI i &&& w = w ∧ nI i &&& ag_gv p = nI i ∧ ag_sup c g nd yl (ag_gv p &&& (nI i ^^^ (-1))) = false ∧ (x1 = -4 ∨ ag_cost p (nI i) < x2)) := fun t => q ⟨t.1, hc.mp t.2.2.2, t.2.1, t.2.2.1⟩
      rw [if_neg q, if_neg q']
      exact ⟨h1, h2⟩)
  exact h.1
theorem ag_vitY (c : Nat) (g : Int32) (p nd yl : Nat → Int32) (a : Nat) (ha : a < 4096) (e : ag_gv p = nI a) : ∃ r, ag_fd (ag_sVitY c g nd yl (ag_gv p)) (ag_gv p, 0) (a + 1) = r ∧ ag_vit c g p nd yl = if r.2 = 0 then 0 else r.1 := by
  refine ⟨_, rfl, ?_⟩
  by_cases s : ag_sup c g nd yl (ag_gv p) = true
  · have h1 := ag_rel (fun x (y : Int32 × Int32) => y.1 = x) (ag_sVit c g nd yl (ag_gv p)) (ag_sVitY c g nd yl (ag_gv p)) (ag_gv p) (ag_gv p, 0) rfl (a + 1) (by
      intro i x y hi h
      try dsimp only at h
      unfold ag_sVit ag_sVitY
      by_cases q : nI i &&& ag_gv p = nI i ∧ ag_sup c g nd yl (nI i) = true
      · rw [if_pos q, if_pos q]
        show y.1 &&& nI i = x &&& nI i
        rw [h]
      · rw [if_neg q, if_neg q]; exact h)
    have h2 : (ag_fd (ag_sVitY c g nd yl (ag_gv p)) (ag_gv p, 0) (a + 1)).2 = 1 := by
      show (ag_sVitY c g nd yl (ag_gv p) a (ag_fd (ag_sVitY c g nd yl (ag_gv p)) (ag_gv p, 0) a)).2 = 1
      have q : nI a &&& ag_gv p = nI a ∧ ag_sup c g nd yl (nI a) = true := ⟨by rw [e]; exact Int32.and_self, by rw [← e]; exact s⟩
      unfold ag_sVitY
      exact congrArg Prod.snd (if_pos q)
    rw [h2, if_neg (show ¬ (1 : Int32) = 0 by decide)]
    unfold ag_vit
    rw [if_pos s, ag_cut (ag_sVit c g nd yl (ag_gv p)) (ag_gv p) p a ha e (fun i s h => if_neg (fun z => h z.1))]
    exact h1.symm
  · have h1 : (ag_fd (ag_sVitY c g nd yl (ag_gv p)) (ag_gv p, 0) (a + 1)).2 = 0 := ag_inv (fun _ (y : Int32 × Int32) => y.2 = 0) (ag_sVitY c g nd yl (ag_gv p)) (ag_gv p, 0) rfl (a + 1) (by
      intro i y hi h
      have q : ¬ (nI i &&& ag_gv p = nI i ∧ ag_sup c g nd yl (nI i) = true) := fun q => s (ag_sup_mono c g nd yl (by rw [Int32.and_comm]; exact q.1) q.2)
      unfold ag_sVitY
      rw [if_neg q]
      exact h)
    rw [h1, if_pos (show (0 : Int32) = 0 from rfl)]
    unfold ag_vit
    rw [if_neg s]
/-! ===== small rows for the walks ===== -/
theorem ag_ff {b : Bool} (h : b = false) : ¬ b = true := by rw [h]; decide
theorem ag_tf {b : Bool} (h : b = true) : ¬ b = false := by rw [h]; decide
theorem ag_y {A B : Prop} (b : B) : ((1 : Int32) = 0 → A) ∧ (¬ (1 : Int32) = 0 → B) := br_f (by decide) b
theorem ag_n {A B : Prop} (a : A) : ((0 : Int32) = 0 → A) ∧ (¬ (0 : Int32) = 0 → B) := br_t rfl a
theorem ag_l12 : nI 12 = 12 := by decide +kernel
theorem ag_l14 : nI 14 = 14 := by decide +kernel
theorem ag_l11 : nI 11 = 11 := by decide +kernel
theorem ag_l8 : nI 8 = 8 := by decide +kernel
theorem ag_l4095 : nI 4095 = 4095 := by decide +kernel
theorem ag_le12 : (12 : Int32) ≤ nI 12 := by rw [← ag_l12]; exact nI_le (by omega) (by omega)
theorem ag_ge12 {i : Nat} (h : i < 12) : ¬ (12 : Int32) ≤ nI i := by rw [← ag_l12]; exact nI_ge h (by omega)
theorem ag_ge14 {i : Nat} (h : i < 14) : ¬ (14 : Int32) ≤ nI i := by rw [← ag_l14]; exact nI_ge h (by omega)
theorem ag_4096 : (4095 : Int32) < nI 4096 := by rw [← ag_l4095]; exact nI_lt (by omega) (by omega)
theorem ag_4095 {i : Nat} (h : i < 4096) : ¬ (4095 : Int32) < nI i := by rw [← ag_l4095]; exact nI_nlt (by omega) (by omega)
theorem ag_cl (p : Nat → Int32) {i : Nat} (h : i < 4096) : p (nI i).toNatClampNeg = p i := by rw [nI_clamp (by omega)]
theorem ag_lt {a b : Int32} (h : ¬ a ≤ b) : b < a := Int32.not_le.mp h
theorem ag_nle {a b : Int32} (h : b < a) : ¬ a ≤ b := Int32.not_le.mpr h
theorem ag_end {x : Int32} {a : Nat} (ha : a < 4096) (e : x = nI a) : x < nI (a + 1) := by rw [e]; exact nI_lt (by omega) (by omega)
theorem ag_go {x : Int32} {a i : Nat} (ha : a < 4096) (e : x = nI a) (h : i < a + 1) : ¬ x < nI i := by rw [e]; exact nI_nlt (by omega) (by omega)
theorem ag_le0 {p : Nat → Int32} (hp : ∀ j, ∃ q, q ≤ 20 ∧ p j = nI q) (j : Nat) : p j ≤ 0 ↔ p j = 0 := by
  obtain ⟨q, hq, e⟩ := hp j
  rw [e, ← nI_0, nI_leI (by omega) (by omega), nI_eq (by omega) (by omega)]
  omega
def ag_F (x : Int32) : Prop := ∃ j : Nat, j < 12 ∧ x = nI j
def ag_cs (c : Nat) (g : Int32) (p nd yl : Nat → Int32) (w : Int32) : Int32 := if ag_best c g p nd yl w = -4 then -4 else ag_cost p (ag_best c g p nd yl w)
end
section
section
variable {c : Nat} {g : Int32} {p nd yl : Nat → Int32}
theorem ax_isFact {post : Int32 → Prop} {x : Int32} (h1 : ag_F x → post 1) (h0 : ¬ ag_F x → post 0) : wpX_isFact post x := by
  refine br_c (fun h => h0 ?_) (fun h => br_c (fun h2 => h0 ?_) (fun h2 => h1 ?_))
  · rintro ⟨j, hj, e⟩
    rw [e] at h
    exact nI_pos (by omega) h
  · rintro ⟨j, hj, e⟩
    rw [e] at h2
    exact ag_ge12 hj h2
  · obtain ⟨j, hj, e⟩ := nI_of h
    rw [e, ← ag_l12, nI_leI (by omega) hj] at h2
    exact ⟨j, by omega, e⟩
theorem ax_isSubset {post : Int32 → Prop} {a b : Int32} (h1 : b &&& a = a → post 1) (h0 : ¬ b &&& a = a → post 0) : wpX_isSubset post a b :=
  br_c (fun h => h1 ((ag_A a b).mp h)) (fun h => h0 (fun t => h ((ag_A a b).mpr t)))
theorem ax_sub {post : Int32 → Prop} {a b : Int32} (h1 : a &&& b = a → post 1) (h0 : ¬ a &&& b = a → post 0) : wpX_isSubset post a b :=
  ax_isSubset (fun h => h1 (by rw [Int32.and_comm]; exact h)) (fun h => h0 (fun t => h (by rw [Int32.and_comm]; exact t)))
theorem ax_has {post : Int32 → Prop} {s f : Int32} (h1 : ag_has s f = true → post 1) (h0 : ag_has s f = false → post 0) : wpX_has post s f :=
  br_c (fun h => h1 (decide_eq_true h)) (fun h => h0 (decide_eq_false h))
theorem ax_given {post : Int32 → Prop} (h : post (ag_gv p)) : wpX_given post (nI c, g, p, nd, yl) :=
  ag_loop (fun n i s => wX_given_4 post (nI c) g p nd yl n s (nI i)) (fun f s => if p f = 0 then s else s ||| ((1 : Int32) <<< (nI f &&& 31))) 12 0
    (fun n => br_t ag_le12 h)
    (fun n i s hi _ k => br_f (ag_ge12 hi) ⟨vp_in_nI hi (by decide), by
      have e := ag_cl p (show i < 4096 by omega)
      by_cases z : p i = 0
      · exact br_t (e.trans z) (nm_r (nI_1 i) (k _ (if_pos z)))
      · exact br_f (fun t => z (e.symm.trans t)) (nm_e (nm_r (nI_1 i) (k _ (if_neg z))))⟩)
theorem ax_sizeOf {post : Int32 → Prop} {s : Int32} (h : post (ag_sz s)) : wpX_sizeOf post s :=
  ag_loop (fun n i z => wX_sizeOf_4 post s n z (nI i)) (fun f z => if ag_has s (nI f) = true then z + 1 else z) 12 0
    (fun n => br_t ag_le12 h)
    (fun n i z hi _ k => br_f (ag_ge12 hi) (ax_has
      (fun b => ag_y (nm_e (nm_r (nI_1 i) (k _ (if_pos b)))))
      (fun b => ag_n (nm_r (nI_1 i) (k _ (if_neg (ag_ff b)))))))
theorem ax_givenCount {post : Int32 → Prop} (h : post (nI (ag_cn p 12))) : wpX_givenCount post (nI c, g, p, nd, yl) := by
  unfold wpX_givenCount
  try dsimp only
  refine ax_given (ax_sizeOf ?_)
  rw [ag_szg]
  exact h
theorem ax_costOf {post : Int32 → Prop} {s : Int32} (h : post (ag_cost p s)) : wpX_costOf post (nI c, g, p, nd, yl) s :=
  ag_loop (fun n i z => wX_costOf_4 post s (nI c) g p nd yl n z (nI i)) (fun f z => if ag_has s (nI f) = true then z + p f else z) 12 0
    (fun n => br_t ag_le12 h)
    (fun n i z hi _ k => br_f (ag_ge12 hi) (ax_has
      (fun b => ag_y ⟨vp_in_nI hi (by decide), nm_r (e' := z + p i) (by rw [ag_cl p (show i < 4096 by omega)]) (nm_r (nI_1 i) (k _ (if_pos b)))⟩)
      (fun b => ag_n (nm_r (nI_1 i) (k _ (if_neg (ag_ff b)))))))
theorem ax_inner (hc : c ≤ 14) {post : Int32 → Prop} {J4 : Int32 → Int32 → Prop} {x3 x4 s : Int32} (h : wX_reachedFrom_64 post J4 (ag_rd c nd yl s) x3 x4 (nI c) g p nd yl) : ∃ n, wX_reachedFrom_16 post J4 x3 x4 (nI c) g p nd yl n s 0 :=
  ag_loop (fun n i s => wX_reachedFrom_16 post J4 x3 x4 (nI c) g p nd yl n s (nI i)) (fun r s => if s &&& nd r = nd r then s ||| ((1 : Int32) <<< (yl r &&& 31)) else s) c s
    (fun n => br_t (nI_le (Nat.le_refl c) (by omega)) h)
    (fun n i s hi _ k => br_f (nI_ge hi (by omega)) (br_f (ag_ge14 (by omega)) ⟨vp_in_nI (by omega) (by decide), by
      rw [ag_cl nd (show i < 4096 by omega), ag_cl yl (show i < 4096 by omega)]
      exact ax_isSubset
        (fun b => ag_y ⟨vp_in_nI (by omega) (by decide), nm_e (nm_r (nI_1 i) (k _ (if_pos b)))⟩)
        (fun b => ag_n (nm_r (nI_1 i) (k _ (if_neg b))))⟩))
theorem ax_reachedFrom (hc : c ≤ 14) {post : Int32 → Prop} {s : Int32} (h : post (ag_rc c nd yl s)) : wpX_reachedFrom post (nI c, g, p, nd, yl) s :=
  ag_loop (fun n i t => wX_reachedFrom_4 post (nI c) g p nd yl n t (nI i)) (fun _ => ag_rd c nd yl) 12 s
    (fun n => br_t ag_le12 h)
    (fun n i t hi e k => br_f (ag_ge12 hi) (ax_inner hc (br_c
      (fun q => by
        have f := ag_fix (ag_rd c nd yl) s i (by rw [← e]; exact q) 12 (by omega)
        have f2 : ag_rc c nd yl s = t := f.trans e.symm
        rw [q, ← f2]
        exact h)
      (fun q => nm_r (nI_1 i) (k _ rfl)))))
theorem ax_reachesGoal (hc : c ≤ 14) {post : Int32 → Prop} {s : Int32} (h1 : ag_sup c g nd yl s = true → post 1) (h0 : ag_sup c g nd yl s = false → post 0) : wpX_reachesGoal post (nI c, g, p, nd, yl) s := by
  unfold wpX_reachesGoal
  try dsimp only
  exact ax_reachedFrom hc (ax_has (fun b => ⟨rfl, h1 b⟩) (fun b => ⟨rfl, h0 b⟩))
theorem ax_reached (hc : c ≤ 14) {post : Int32 → Prop} (h : post (ag_rc c nd yl (ag_gv p))) : wpX_reached post (nI c, g, p, nd, yl) := by
  unfold wpX_reached
  try dsimp only
  exact ax_given (ax_reachedFrom hc h)
theorem ax_isLeastSupport (hc : c ≤ 14) {post : Int32 → Prop} {s : Int32} (h1 : ag_lst c g nd yl s = true → post 1) (h0 : ag_lst c g nd yl s = false → post 0) : wpX_isLeastSupport post (nI c, g, p, nd, yl) s := by
  unfold wpX_isLeastSupport
  try dsimp only
  refine ax_reachesGoal hc (fun b => ag_y ?_) (fun b => ag_n (h0 (by unfold ag_lst; rw [b]; rfl)))
  refine loop_0 (fun n i (_ : Unit) => wX_isLeastSupport_12 post s (nI c) g p nd yl n (nI i)) (fun i _ => ag_nl c g nd yl s i = true) 12 () rfl (fun n _ I => br_t ag_le12 (h1 (by
    have I' : ag_nl c g nd yl s 12 = true := I
    unfold ag_lst
    rw [b, I']
    rfl))) ?_
  intro n i _ hi I k
  have I' : ag_nl c g nd yl s i = true := I
  refine br_f (ag_ge12 hi) (ax_has (fun q => ag_y (ax_reachesGoal hc (fun r => ag_y (h0 ?_)) (fun r => ag_n (nm_r (nI_1 i) (k () ?_))))) (fun q => ag_n (nm_r (nI_1 i) (k () ?_))))
  · unfold ag_lst
    rw [ag_nl_false c g nd yl s i q r 12 hi]
    simp
  · show (ag_nl c g nd yl s i && !(ag_has s (nI i) && ag_sup c g nd yl (ag_wo s i))) = true
    have r' : ag_sup c g nd yl (ag_wo s i) = false := r
    rw [I', r']
    simp
  · show (ag_nl c g nd yl s i && !(ag_has s (nI i) && ag_sup c g nd yl (ag_wo s i))) = true
    rw [I', q]
    rfl
theorem ax_leastSupports (hc : c ≤ 14) {post : Int32 → Prop} (h : post (ag_least c g p nd yl)) : wpX_leastSupports post (nI c, g, p, nd, yl) := by
  unfold wpX_leastSupports
  try dsimp only
  refine ax_given ?_
  exact ag_loop (fun n i z => wX_leastSupports_9 post (ag_gv p) (nI c) g p nd yl n z (nI i)) (ag_sLeast c g nd yl (ag_gv p)) 4096 0
    (fun n => br_t ag_4096 h)
    (fun n i z hi _ k => br_f (ag_4095 hi) (ax_sub
      (fun a => ag_y (ax_isLeastSupport hc
        (fun b => ag_y (nm_e (nm_r (nI_1 i) (k _ (if_pos ⟨a, b⟩)))))
        (fun b => ag_n (nm_r (nI_1 i) (k _ (if_neg (fun t => ag_ff b t.2)))))))
      (fun a => ag_n (nm_r (nI_1 i) (k _ (if_neg (fun t => a t.1)))))))
theorem ax_useful (hc : c ≤ 14) {post : Int32 → Prop} (h : post (ag_use c g p nd yl)) : wpX_useful post (nI c, g, p, nd, yl) := by
  unfold wpX_useful
  try dsimp only
  refine ax_given ?_
  exact ag_loop (fun n i z => wX_useful_9 post (ag_gv p) (nI c) g p nd yl n z (nI i)) (ag_sUse c g nd yl (ag_gv p)) 4096 0
    (fun n => br_t ag_4096 h)
    (fun n i z hi _ k => br_f (ag_4095 hi) (ax_sub
      (fun a => ag_y (ax_isLeastSupport hc
        (fun b => ag_y (nm_e (nm_r (nI_1 i) (k _ (if_pos ⟨a, b⟩)))))
        (fun b => ag_n (nm_r (nI_1 i) (k _ (if_neg (fun t => ag_ff b t.2)))))))
      (fun a => ag_n (nm_r (nI_1 i) (k _ (if_neg (fun t => a t.1)))))))
theorem ax_cheapestSupport (hc : c ≤ 14) {post : Int32 → Prop} (h : post (ag_cheap c g p nd yl)) : wpX_cheapestSupport post (nI c, g, p, nd, yl) := by
  unfold wpX_cheapestSupport
  try dsimp only
  refine ax_given ?_
  exact ag_loop (fun n i z => wX_cheapestSupport_10 post (ag_gv p) (nI c) g p nd yl n z (nI i)) (ag_sCheap c g p nd yl (ag_gv p)) 4096 (-4)
    (fun n => br_t ag_4096 h)
    (fun n i z hi _ k => br_f (ag_4095 hi) (ax_sub
      (fun a => ag_y (ax_reachesGoal hc
        (fun b => ag_y (ax_costOf (br_c
          (fun q => nm_r (nI_1 i) (k _ (if_pos ⟨a, b, Or.inl q⟩)))
          (fun q => br_c
            (fun w => nm_r (nI_1 i) (k _ (if_neg (fun t => t.2.2.elim q (fun l => ag_nle l w)))))
            (fun w => nm_r (nI_1 i) (k _ (if_pos ⟨a, b, Or.inr (ag_lt w)⟩)))))))
        (fun b => ag_n (nm_r (nI_1 i) (k _ (if_neg (fun t => ag_ff b t.2.1)))))))
      (fun a => ag_n (nm_r (nI_1 i) (k _ (if_neg (fun t => a t.1)))))))
theorem ax_smallestShield (hc : c ≤ 14) {post : Int32 → Prop} (h : post (ag_small c g p nd yl)) : wpX_smallestShield post (nI c, g, p, nd, yl) := by
  unfold wpX_smallestShield
  try dsimp only
  refine ax_given ?_
  exact ag_loop (fun n i z => wX_smallestShield_10 post (ag_gv p) (nI c) g p nd yl n z (nI i)) (ag_sSmall c g nd yl (ag_gv p)) 4096 (-4)
    (fun n => br_t ag_4096 h)
    (fun n i z hi _ k => br_f (ag_4095 hi) (ax_sub
      (fun a => ag_y (ax_reachesGoal hc
        (fun b => ag_y (nm_r (nI_1 i) (k _ (if_neg (fun t => ag_tf b t.2.1)))))
        (fun b => ag_n (ax_sizeOf (br_c
          (fun q => nm_r (nI_1 i) (k _ (if_pos ⟨a, b, Or.inl q⟩)))
          (fun q => br_c
            (fun w => nm_r (nI_1 i) (k _ (if_neg (fun t => t.2.2.elim q (fun l => ag_nle l w)))))
            (fun w => nm_r (nI_1 i) (k _ (if_pos ⟨a, b, Or.inr (ag_lt w)⟩)))))))))
      (fun a => ag_n (nm_r (nI_1 i) (k _ (if_neg (fun t => a t.1)))))))
theorem ax_vital (hc : c ≤ 14) {post : Int32 → Prop} (h : post (ag_vit c g p nd yl)) : wpX_vital post (nI c, g, p, nd, yl) := by
  unfold wpX_vital
  try dsimp only
  refine ax_given (ax_reachesGoal hc (fun s => ag_y ?_) (fun s => ag_n ?_))
  · unfold ag_vit at h
    rw [if_pos s] at h
    exact ag_loop (fun n i z => wX_vital_19 post (ag_gv p) (nI c) g p nd yl n z (nI i)) (ag_sVit c g nd yl (ag_gv p)) 4096 (ag_gv p)
      (fun n => br_t ag_4096 h)
      (fun n i z hi _ k => br_f (ag_4095 hi) (ax_sub
        (fun a => ag_y (ax_reachesGoal hc
          (fun b => ag_y (nm_e (nm_r (nI_1 i) (k _ (if_pos ⟨a, b⟩)))))
          (fun b => ag_n (nm_r (nI_1 i) (k _ (if_neg (fun t => ag_ff b t.2)))))))
        (fun a => ag_n (nm_r (nI_1 i) (k _ (if_neg (fun t => a t.1)))))))
  · unfold ag_vit at h
    rw [if_neg (ag_ff s)] at h
    exact h
theorem ax_best (hc : c ≤ 14) {post : Int32 → Prop} {w : Int32} (h : post (ag_best c g p nd yl w)) : wpX_bestShieldHaving post (nI c, g, p, nd, yl) w := by
  unfold wpX_bestShieldHaving
  try dsimp only
  refine ax_given ?_
  exact ag_loop (fun n i (z : Int32 × Int32) => wX_bestShieldHaving_14 post w (ag_gv p) (nI c) g p nd yl n z.1 z.2 (nI i)) (ag_sBX c g p nd yl (ag_gv p) w) 4096 (-4, 0)
    (fun n => br_t ag_4096 h)
    (fun n i z hi _ k => br_f (ag_4095 hi) (ax_isSubset
      (fun a => ag_y (ax_sub
        (fun a2 => ag_y (ax_reachesGoal hc
          (fun b => ag_y (nm_r (nI_1 i) (k z (if_neg (fun t => ag_tf b t.2.2.1)))))
          (fun b => ag_n (ax_costOf (br_c
            (fun q => nm_r (nI_1 i) (k (nI i, ag_cost p (nI i)) (if_pos ⟨a, a2, b, Or.inl q⟩)))
            (fun q => br_c
              (fun l => nm_r (nI_1 i) (k z (if_neg (fun t => t.2.2.2.elim q (fun m => ag_nle m l)))))
              (fun l => nm_r (nI_1 i) (k (nI i, ag_cost p (nI i)) (if_pos ⟨a, a2, b, Or.inr (ag_lt l)⟩)))))))))
        (fun a2 => ag_n (nm_r (nI_1 i) (k z (if_neg (fun t => a2 t.2.1)))))))
      (fun a => ag_n (nm_r (nI_1 i) (k z (if_neg (fun t => a t.1)))))))
theorem ax_cs (hc : c ≤ 14) {post : Int32 → Prop} {w : Int32} (h : post (ag_cs c g p nd yl w)) : wpX_bestShieldHaving (fun r_1 => (((r_1 = (-4) → (post (-4))) ∧ (¬ r_1 = (-4) → (wpX_costOf (fun r_8 => (post r_8)) (nI c, g, p, nd, yl) r_1))))) (nI c, g, p, nd, yl) w := by
  unfold ag_cs at h
  refine ax_best hc (br_c (fun q => ?_) (fun q => ax_costOf ?_))
  · rw [if_pos q] at h
    exact h
  · rw [if_neg q] at h
    exact h
end
end
section
section
variable {c : Nat} {g : Int32} {p nd yl : Nat → Int32}
theorem ay_isFact {post : Int32 → Prop} {x : Int32} (h1 : ag_F x → post 1) (h0 : ¬ ag_F x → post 0) : wpY_isFact post (nI c, g, p, nd, yl) x := by
  refine br_c (fun h => h0 ?_) (fun h => br_c (fun h2 => h0 ?_) (fun h2 => h1 ?_))
  · rintro ⟨j, hj, e⟩
    rw [e] at h
    exact nI_pos (by omega) h
  · rintro ⟨j, hj, e⟩
    rw [e, ← ag_l11] at h2
    exact nI_nlt (by omega) (by omega) h2
  · obtain ⟨j, hj, e⟩ := nI_of h
    rw [e, ← ag_l11, nI_ltI (by omega) hj] at h2
    exact ⟨j, by omega, e⟩
theorem ay_has {post : Int32 → Prop} {s f : Int32} (h1 : ag_has s f = true → post 1) (h0 : ag_has s f = false → post 0) : wpY_has post (nI c, g, p, nd, yl) s f :=
  br_c (fun h => h1 (decide_eq_true h)) (fun h => h0 (decide_eq_false h))
theorem ay_given (hp : ∀ j, ∃ q, q ≤ 20 ∧ p j = nI q) {post : Int32 → Prop} (h : post (ag_gv p)) : wpY_given post (nI c, g, p, nd, yl) :=
  ag_loop (fun n i s => wY_given_4 post (nI c) g p nd yl n s (nI i)) (fun f s => if p f = 0 then s else s ||| ((1 : Int32) <<< (nI f &&& 31))) 12 0
    (fun n => br_t ag_le12 h)
    (fun n i s hi _ k => br_f (ag_ge12 hi) ⟨vp_in_nI hi (by decide), by
      have e := ag_cl p (show i < 4096 by omega)
      rw [e]
      by_cases z : p i = 0
      · exact br_t ((ag_le0 hp i).mpr z) (nm_r (nI_1 i) (k _ (if_pos z)))
      · exact br_f (fun t => z ((ag_le0 hp i).mp t)) (nm_e (nm_r (nI_1 i) (k _ (if_neg z))))⟩)
theorem ag_szs (s : Int32) (i : Nat) (z : Int32) : z + ((s >>> (nI i &&& 31)) &&& 1) = if ag_has s (nI i) = true then z + 1 else z := by
  by_cases b : ag_has s (nI i) = true
  · have e : (s >>> (nI i &&& 31)) &&& 1 = 1 := of_decide_eq_true b
    rw [if_pos b, e]
  · have e : (s >>> (nI i &&& 31)) &&& 1 = 0 := ag_zo _ (fun t => b (decide_eq_true t))
    rw [if_neg b, e, Int32.add_zero]
theorem ay_sizeOf {post : Int32 → Prop} {s : Int32} (h : post (ag_sz s)) : wpY_sizeOf post (nI c, g, p, nd, yl) s :=
  ag_loop (fun n i z => wY_sizeOf_4 post s (nI c) g p nd yl n z (nI i)) (fun f z => if ag_has s (nI f) = true then z + 1 else z) 12 0
    (fun n => br_t ag_le12 h)
    (fun n i z hi _ k => br_f (ag_ge12 hi) (nm_r (ag_szs s i z) (nm_r (nI_1 i) (k _ rfl))))
theorem ay_costOf {post : Int32 → Prop} {s : Int32} (h : post (ag_cost p s)) : wpY_costOf post (nI c, g, p, nd, yl) s :=
  ag_loop (fun n i z => wY_costOf_4 post s (nI c) g p nd yl n z (nI i)) (fun f z => if ag_has s (nI f) = true then z + p f else z) 12 0
    (fun n => br_t ag_le12 h)
    (fun n i z hi _ k => br_f (ag_ge12 hi) (ay_has
      (fun b => ag_y ⟨vp_in_nI hi (by decide), nm_r (e' := z + p i) (by rw [ag_cl p (show i < 4096 by omega)]) (nm_r (nI_1 i) (k _ (if_pos b)))⟩)
      (fun b => ag_n (nm_r (nI_1 i) (k _ (if_neg (ag_ff b)))))))
theorem ay_inner (hc : c ≤ 14) {post : Int32 → Prop} {J4 : Int32 → Int32 → Prop} {x3 s : Int32} (h : J4 (ag_rd c nd yl s) (x3 + 1)) : ∃ n, wY_reach_13 post J4 x3 (nI c) g p nd yl n s 0 :=
  ag_loop (fun n i s => wY_reach_13 post J4 x3 (nI c) g p nd yl n s (nI i)) (fun r s => if s &&& nd r = nd r then s ||| ((1 : Int32) <<< (yl r &&& 31)) else s) c s
    (fun n => br_t (nI_le (Nat.le_refl c) (by omega)) (nm_e h))
    (fun n i s hi _ k => br_f (nI_ge hi (by omega)) ⟨vp_in_nI (by omega) (by decide), vp_in_nI (by omega) (by decide), by
      rw [ag_cl nd (show i < 4096 by omega), ag_cl yl (show i < 4096 by omega)]
      exact br_c
        (fun b => ⟨vp_in_nI (by omega) (by decide), nm_e (nm_r (nI_1 i) (k _ (if_pos b)))⟩)
        (fun b => nm_r (nI_1 i) (k _ (if_neg b)))⟩)
theorem ay_reach (hc : c ≤ 14) {post : Int32 → Prop} {s : Int32} (h : post (ag_rc c nd yl s)) : wpY_reach post (nI c, g, p, nd, yl) s :=
  ag_loop (fun n i t => wY_reach_4 post (nI c) g p nd yl n t (nI i)) (fun _ => ag_rd c nd yl) 12 s
    (fun n => br_t ag_le12 h)
    (fun n i t hi e k => br_f (ag_ge12 hi) (ay_inner hc (by rw [nI_1 i]; exact k _ rfl)))
theorem ay_isSupport (hc : c ≤ 14) {post : Int32 → Prop} {s : Int32} (h1 : ag_sup c g nd yl s = true → post 1) (h0 : ag_sup c g nd yl s = false → post 0) : wpY_isSupport post (nI c, g, p, nd, yl) s := by
  unfold wpY_isSupport
  try dsimp only
  exact ay_reach hc (ay_has (fun b => ⟨rfl, h1 b⟩) (fun b => ⟨rfl, h0 b⟩))
theorem ay_reached (hc : c ≤ 14) (hp : ∀ j, ∃ q, q ≤ 20 ∧ p j = nI q) {post : Int32 → Prop} (h : post (ag_rc c nd yl (ag_gv p))) : wpY_reached post (nI c, g, p, nd, yl) := by
  unfold wpY_reached
  try dsimp only
  exact ay_given hp (ay_reach hc h)
theorem ay_isLeast (hc : c ≤ 14) {post : Int32 → Prop} {s : Int32} (h1 : ag_lst c g nd yl s = true → post 1) (h0 : ag_lst c g nd yl s = false → post 0) : wpY_isLeast post (nI c, g, p, nd, yl) s := by
  unfold wpY_isLeast
  try dsimp only
  refine ay_isSupport hc (fun b => ag_y ?_) (fun b => ag_n (h0 (by unfold ag_lst; rw [b]; rfl)))
  refine loop_0 (fun n i (_ : Unit) => wY_isLeast_12 post s (nI c) g p nd yl n (nI i)) (fun i _ => ag_nl c g nd yl s i = true) 12 () rfl (fun n _ I => br_t ag_le12 (h1 (by
    have I' : ag_nl c g nd yl s 12 = true := I
    unfold ag_lst
    rw [b, I']
    rfl))) ?_
  intro n i _ hi I k
  have I' : ag_nl c g nd yl s i = true := I
  refine br_f (ag_ge12 hi) (ay_has (fun q => ag_y (ay_isSupport hc (fun r => ag_y (h0 ?_)) (fun r => ag_n (nm_r (nI_1 i) (k () ?_))))) (fun q => ag_n (nm_r (nI_1 i) (k () ?_))))
  · unfold ag_lst
    rw [ag_nl_false c g nd yl s i q r 12 hi]
    simp
  · show (ag_nl c g nd yl s i && !(ag_has s (nI i) && ag_sup c g nd yl (ag_wo s i))) = true
    have r' : ag_sup c g nd yl (ag_wo s i) = false := r
    rw [I', r']
    simp
  · show (ag_nl c g nd yl s i && !(ag_has s (nI i) && ag_sup c g nd yl (ag_wo s i))) = true
    rw [I', q]
    rfl
theorem ay_isShield (hc : c ≤ 14) (hp : ∀ j, ∃ q, q ≤ 20 ∧ p j = nI q) {post : Int32 → Prop} {s : Int32} (h1 : s &&& ag_gv p = s → ag_sup c g nd yl (ag_gv p &&& (s ^^^ (-1))) = false → post 1) (h0 : ¬ (s &&& ag_gv p = s ∧ ag_sup c g nd yl (ag_gv p &&& (s ^^^ (-1))) = false) → post 0) : wpY_isShield post (nI c, g, p, nd, yl) s := by
  unfold wpY_isShield
  try dsimp only
  exact ay_given hp (br_c
    (fun a => ay_isSupport hc (fun b => ag_y (h0 (fun t => ag_tf b t.2))) (fun b => ag_n (h1 a b)))
    (fun a => h0 (fun t => a t.1)))
theorem ay_leastSupports (hc : c ≤ 14) (hp : ∀ j, ∃ q, q ≤ 20 ∧ p j = nI q) {post : Int32 → Prop} (h : post (ag_least c g p nd yl)) : wpY_leastSupports post (nI c, g, p, nd, yl) := by
  obtain ⟨a, ha, e⟩ := ag_gvN p
  rw [ag_leastY c g p nd yl a ha e] at h
  unfold wpY_leastSupports
  try dsimp only
  refine ay_given hp ?_
  exact ag_loop (fun n i z => wY_leastSupports_9 post (ag_gv p) (nI c) g p nd yl n z (nI i)) (ag_sLeast c g nd yl (ag_gv p)) (a + 1) 0
    (fun n => br_t (ag_end ha e) h)
    (fun n i z hi _ k => br_f (ag_go ha e hi) (br_c
      (fun s => ay_isLeast hc
        (fun b => ag_y (nm_e (nm_r (nI_1 i) (k _ (if_pos ⟨s, b⟩)))))
        (fun b => ag_n (nm_r (nI_1 i) (k _ (if_neg (fun t => ag_ff b t.2))))))
      (fun s => nm_r (nI_1 i) (k _ (if_neg (fun t => s t.1))))))
theorem ay_useful (hc : c ≤ 14) (hp : ∀ j, ∃ q, q ≤ 20 ∧ p j = nI q) {post : Int32 → Prop} (h : post (ag_use c g p nd yl)) : wpY_useful post (nI c, g, p, nd, yl) := by
  obtain ⟨a, ha, e⟩ := ag_gvN p
  rw [ag_useY c g p nd yl a ha e] at h
  unfold wpY_useful
  try dsimp only
  refine ay_given hp ?_
  exact ag_loop (fun n i z => wY_useful_9 post (ag_gv p) (nI c) g p nd yl n z (nI i)) (ag_sUse c g nd yl (ag_gv p)) (a + 1) 0
    (fun n => br_t (ag_end ha e) h)
    (fun n i z hi _ k => br_f (ag_go ha e hi) (br_c
      (fun s => ay_isLeast hc
        (fun b => ag_y (nm_e (nm_r (nI_1 i) (k _ (if_pos ⟨s, b⟩)))))
        (fun b => ag_n (nm_r (nI_1 i) (k _ (if_neg (fun t => ag_ff b t.2))))))
      (fun s => nm_r (nI_1 i) (k _ (if_neg (fun t => s t.1))))))
theorem ay_cs37 (hc : c ≤ 14) {post : Int32 → Prop} {J10 : Int32 → Int32 → Prop} {x1 z : Int32} {i : Nat} (h1 : ag_sup c g nd yl (nI i) = true → J10 (ag_cost p (nI i)) (nI (i + 1))) (h0 : ag_sup c g nd yl (nI i) = false → J10 z (nI (i + 1))) : wY_cheapestSupport_37 post J10 x1 z (nI i) (nI c) g p nd yl := by
  unfold wY_cheapestSupport_37
  exact ay_isSupport hc (fun b => ag_y (ay_costOf (nm_r (nI_1 i) (h1 b)))) (fun b => ag_n (nm_r (nI_1 i) (h0 b)))
theorem ay_cheapestSupport (hc : c ≤ 14) (hp : ∀ j, ∃ q, q ≤ 20 ∧ p j = nI q) {post : Int32 → Prop} (h : post (ag_cheap c g p nd yl)) : wpY_cheapestSupport post (nI c, g, p, nd, yl) := by
  obtain ⟨a, ha, e⟩ := ag_gvN p
  rw [ag_cheapY c g p nd yl a ha e] at h
  unfold wpY_cheapestSupport
  try dsimp only
  refine ay_given hp ?_
  exact ag_loop (fun n i z => wY_cheapestSupport_10 post (ag_gv p) (nI c) g p nd yl n z (nI i)) (ag_sCheap c g p nd yl (ag_gv p)) (a + 1) (-4)
    (fun n => br_t (ag_end ha e) h)
    (fun n i z hi _ k => br_f (ag_go ha e hi) (br_c
      (fun s => br_c
        (fun q => ay_cs37 hc
          (fun b => k _ (if_pos ⟨s, b, Or.inl q⟩))
          (fun b => k _ (if_neg (fun t => ag_ff b t.2.1))))
        (fun q => ay_costOf (br_c
          (fun w => nm_r (nI_1 i) (k _ (if_neg (fun t => t.2.2.elim q (fun l => ag_nle l w)))))
          (fun w => ay_cs37 hc
            (fun b => k _ (if_pos ⟨s, b, Or.inr (ag_lt w)⟩))
            (fun b => k _ (if_neg (fun t => ag_ff b t.2.1)))))))
      (fun s => nm_r (nI_1 i) (k _ (if_neg (fun t => s t.1))))))
theorem ay_ss30 (hc : c ≤ 14) (hp : ∀ j, ∃ q, q ≤ 20 ∧ p j = nI q) {post : Int32 → Prop} {J10 : Int32 → Int32 → Prop} {x1 z : Int32} {i : Nat} (h1 : nI i &&& ag_gv p = nI i → ag_sup c g nd yl (ag_gv p &&& (nI i ^^^ (-1))) = false → J10 (ag_sz (nI i)) (nI (i + 1))) (h0 : ¬ (nI i &&& ag_gv p = nI i ∧ ag_sup c g nd yl (ag_gv p &&& (nI i ^^^ (-1))) = false) → J10 z (nI (i + 1))) : wY_smallestShield_30 post J10 x1 z (nI i) (nI c) g p nd yl := by
  unfold wY_smallestShield_30
  exact ay_isShield hc hp (fun a b => ag_y (ay_sizeOf (nm_r (nI_1 i) (h1 a b)))) (fun b => ag_n (nm_r (nI_1 i) (h0 b)))
theorem ay_smallestShield (hc : c ≤ 14) (hp : ∀ j, ∃ q, q ≤ 20 ∧ p j = nI q) {post : Int32 → Prop} (h : post (ag_small c g p nd yl)) : wpY_smallestShield post (nI c, g, p, nd, yl) := by
  obtain ⟨a, ha, e⟩ := ag_gvN p
  rw [ag_smallY c g p nd yl a ha e] at h
  unfold wpY_smallestShield
  try dsimp only
  refine ay_given hp ?_
  exact ag_loop (fun n i z => wY_smallestShield_10 post (ag_gv p) (nI c) g p nd yl n z (nI i)) (ag_sSmall c g nd yl (ag_gv p)) (a + 1) (-4)
    (fun n => br_t (ag_end ha e) h)
    (fun n i z hi _ k => br_f (ag_go ha e hi) (br_c
      (fun q => ay_ss30 hc hp
        (fun s b => k _ (if_pos ⟨s, b, Or.inl q⟩))
        (fun b => k _ (if_neg (fun t => b ⟨t.1, t.2.1⟩))))
      (fun q => ay_sizeOf (br_c
        (fun w => nm_r (nI_1 i) (k _ (if_neg (fun t => t.2.2.elim q (fun l => ag_nle l w)))))
        (fun w => ay_ss30 hc hp
          (fun s b => k _ (if_pos ⟨s, b, Or.inr (ag_lt w)⟩))
          (fun b => k _ (if_neg (fun t => b ⟨t.1, t.2.1⟩))))))))
theorem ay_vital (hc : c ≤ 14) (hp : ∀ j, ∃ q, q ≤ 20 ∧ p j = nI q) {post : Int32 → Prop} (h : post (ag_vit c g p nd yl)) : wpY_vital post (nI c, g, p, nd, yl) := by
  obtain ⟨a, ha, e⟩ := ag_gvN p
  obtain ⟨r, er, hr⟩ := ag_vitY c g p nd yl a ha e
  rw [hr] at h
  unfold wpY_vital
  try dsimp only
  refine ay_given hp ?_
  exact ag_loop (fun n i (z : Int32 × Int32) => wY_vital_12 post (ag_gv p) (nI c) g p nd yl n z.1 z.2 (nI i)) (ag_sVitY c g nd yl (ag_gv p)) (a + 1) (ag_gv p, 0)
    (fun n => by
      rw [er]
      refine br_t (ag_end ha e) (br_c (fun q => ?_) (fun q => ?_))
      · rw [if_pos q] at h
        exact h
      · rw [if_neg q] at h
        exact h)
    (fun n i z hi _ k => br_f (ag_go ha e hi) (br_c
      (fun s => ay_isSupport hc
        (fun b => ag_y (nm_e (nm_r (nI_1 i) (k (z.1 &&& nI i, 1) (if_pos ⟨s, b⟩)))))
        (fun b => ag_n (nm_r (nI_1 i) (k z (if_neg (fun t => ag_ff b t.2))))))
      (fun s => nm_r (nI_1 i) (k z (if_neg (fun t => s t.1))))))
theorem ay_best (hc : c ≤ 14) (hp : ∀ j, ∃ q, q ≤ 20 ∧ p j = nI q) {post : Int32 → Prop} {w : Int32} (h : post (ag_best c g p nd yl w)) : wpY_cheapest post (nI c, g, p, nd, yl) w := by
  obtain ⟨a, ha, e⟩ := ag_gvN p
  rw [ag_bestY c g p nd yl w hp a ha e] at h
  unfold wpY_cheapest
  try dsimp only
  refine ay_given hp ?_
  exact ag_loop (fun n i (z : Int32 × Int32) => wY_cheapest_16 post w (ag_gv p) (nI c) g p nd yl n z.1 z.2 (nI i)) (ag_sBY c g p nd yl (ag_gv p) w) (a + 1) (-4, 1000)
    (fun n => br_t (ag_end ha e) h)
    (fun n i z hi _ k => br_f (ag_go ha e hi) (br_c
      (fun s => ay_costOf (br_c
        (fun l => nm_r (nI_1 i) (k z (if_neg (fun t => ag_nle t.2.1 l))))
        (fun l => ay_isShield hc hp
          (fun a2 b => ag_y (ay_costOf (nm_r (nI_1 i) (k (nI i, ag_cost p (nI i)) (if_pos ⟨s, ag_lt l, a2, b⟩)))))
          (fun b => ag_n (nm_r (nI_1 i) (k z (if_neg (fun t => b ⟨t.2.2.1, t.2.2.2⟩))))))))
      (fun s => nm_r (nI_1 i) (k z (if_neg (fun t => s t.1))))))
theorem ay_cs (hc : c ≤ 14) (hp : ∀ j, ∃ q, q ≤ 20 ∧ p j = nI q) {post : Int32 → Prop} {w : Int32} (h : post (ag_cs c g p nd yl w)) : wpY_cheapest (fun r_1 => (((r_1 = (-4) → (post (-4))) ∧ (¬ r_1 = (-4) → (wpY_costOf (fun r_8 => (post r_8)) (nI c, g, p, nd, yl) r_1))))) (nI c, g, p, nd, yl) w := by
  unfold ag_cs at h
  refine ay_best hc hp (br_c (fun q => ?_) (fun q => ay_costOf ?_))
  · rw [if_pos q] at h
    exact h
  · rw [if_neg q] at h
    exact h
end
end
section
section
variable {c : Nat} {g : Int32} {p nd yl : Nat → Int32}
/-- a call that only reads: one answer, asked by both sides -/
theorem ac_isSetX {post : Int32 → Prop} {x : Int32} (h1 : ¬ x < 0 → ¬ 4095 < x → post 1) (h0 : x < 0 ∨ 4095 < x → post 0) : wpX_isSet post x :=
  br_c (fun h => h0 (Or.inl h)) (fun h => br_c (fun h2 => h0 (Or.inr h2)) (fun h2 => h1 h h2))
theorem ac_supports (hc : c ≤ 14) (hp : ∀ j, ∃ q, q ≤ 20 ∧ p j = nI q) (x : Int32) : ∃ r, (∀ post : Int32 → Prop, post r → wpX_supports post (nI c, g, p, nd, yl) x) ∧ (∀ post : Int32 → Prop, post r → wpY_supports post (nI c, g, p, nd, yl) x) := by
  by_cases a : x < 0
  · refine ⟨0, fun post h => ?_, fun post h => ?_⟩
    · unfold wpX_supports
      try dsimp only
      exact ac_isSetX (fun q => absurd a q) (fun _ => ag_n h)
    · exact br_t a h
  · by_cases b : 4095 < x
    · refine ⟨0, fun post h => ?_, fun post h => ?_⟩
      · unfold wpX_supports
        try dsimp only
        exact ac_isSetX (fun _ q => absurd b q) (fun _ => ag_n h)
      · exact br_f a (br_t b h)
    · cases s : ag_sup c g nd yl (x &&& ag_gv p)
      · refine ⟨0, fun post h => ?_, fun post h => ?_⟩
        · unfold wpX_supports
          try dsimp only
          exact ac_isSetX (fun _ _ => ag_y (ax_given (ax_reachesGoal hc (fun t => absurd s (ag_tf t)) (fun _ => ⟨rfl, h⟩)))) (fun q => absurd q (fun t => t.elim a b))
        · exact br_f a (br_f b (ay_given hp (ay_isSupport hc (fun t => absurd s (ag_tf t)) (fun _ => ag_n h))))
      · refine ⟨1, fun post h => ?_, fun post h => ?_⟩
        · unfold wpX_supports
          try dsimp only
          exact ac_isSetX (fun _ _ => ag_y (ax_given (ax_reachesGoal hc (fun _ => ⟨rfl, h⟩) (fun t => absurd s (ag_ff t))))) (fun q => absurd q (fun t => t.elim a b))
        · exact br_f a (br_f b (ay_given hp (ay_isSupport hc (fun _ => ag_y h) (fun t => absurd s (ag_ff t)))))
theorem ac_shieldWith (hc : c ≤ 14) (hp : ∀ j, ∃ q, q ≤ 20 ∧ p j = nI q) (x : Int32) : ∃ r, (∀ post : Int32 → Prop, post r → wpX_shieldWith post (nI c, g, p, nd, yl) x) ∧ (∀ post : Int32 → Prop, post r → wpY_shieldWith post (nI c, g, p, nd, yl) x) := by
  by_cases F : ag_F x
  · obtain ⟨j, hj, e⟩ := F
    have F : ag_F x := ⟨j, hj, e⟩
    have hi : vp_in x 12 := by rw [e]; exact vp_in_nI hj (by decide)
    by_cases z : p x.toNatClampNeg = 0
    · refine ⟨-4, fun post h => ?_, fun post h => ?_⟩
      · unfold wpX_shieldWith
        try dsimp only
        exact ax_isFact (fun _ => ag_y ⟨hi, br_t z h⟩) (fun q => absurd F q)
      · unfold wpY_shieldWith
        try dsimp only
        exact ay_isFact (fun _ => ag_y ⟨hi, br_t z h⟩) (fun q => absurd F q)
    · refine ⟨ag_cs c g p nd yl ((1 : Int32) <<< (x &&& 31)), fun post h => ?_, fun post h => ?_⟩
      · unfold wpX_shieldWith
        try dsimp only
        exact ax_isFact (fun _ => ag_y ⟨hi, br_f z (ax_cs hc h)⟩) (fun q => absurd F q)
      · unfold wpY_shieldWith
        try dsimp only
        exact ay_isFact (fun _ => ag_y ⟨hi, br_f z (ay_cs hc hp h)⟩) (fun q => absurd F q)
  · refine ⟨-1, fun post h => ?_, fun post h => ?_⟩
    · unfold wpX_shieldWith
      try dsimp only
      exact ax_isFact (fun q => absurd q F) (fun _ => ag_n h)
    · unfold wpY_shieldWith
      try dsimp only
      exact ay_isFact (fun q => absurd q F) (fun _ => ag_n h)
theorem ac_hpu (hp : ∀ j, ∃ q, q ≤ 20 ∧ p j = nI q) (f : Nat) {x : Int32} (hx : ∃ q, q ≤ 20 ∧ x = nI q) : ∀ j, ∃ q, q ≤ 20 ∧ upd p f x j = nI q := by
  intro j
  by_cases e : j = f
  · have e2 : upd p f x j = x := if_pos e
    rw [e2]
    exact hx
  · have e2 : upd p f x j = p j := if_neg e
    rw [e2]
    exact hp j
theorem ac_cnu {f : Nat} (hf : f < 12) {x : Int32} (hn : ag_cn p 12 ≤ 8) (h : p f = 0 → ag_cn p 12 < 8) : ag_cn (upd p f x) 12 ≤ 8 := by
  have t := ag_cn_lo p f x 12 hf
  have t2 : (if x = 0 then 0 else 1) ≤ 1 := by
    by_cases q : x = 0
    · rw [if_pos q]; omega
    · rw [if_neg q]; omega
  by_cases z : p f = 0
  · have h' := h z
    rw [if_pos z] at t
    omega
  · rw [if_neg z] at t
    omega
theorem ac_give (hp : ∀ j, ∃ q, q ≤ 20 ∧ p j = nI q) (hn : ag_cn p 12 ≤ 8) (x y : Int32) : ∃ r p', (∀ j, ∃ q, q ≤ 20 ∧ p' j = nI q) ∧ ag_cn p' 12 ≤ 8 ∧ (∀ post : Int32 → SX → Prop, post r (nI c, g, p', nd, yl) → wpX_give post (nI c, g, p, nd, yl) x y) ∧ (∀ post : Int32 → SY → Prop, post r (nI c, g, p', nd, yl) → wpY_give post (nI c, g, p, nd, yl) x y) := by
  by_cases F : ag_F x
  · obtain ⟨j, hj, e⟩ := F
    have F : ag_F x := ⟨j, hj, e⟩
    by_cases y1 : y < 1
    · refine ⟨-1, p, hp, hn, fun post h => ?_, fun post h => ?_⟩
      · unfold wpX_give
        try dsimp only
        exact ax_isFact (fun _ => ag_y (br_t y1 h)) (fun q => absurd F q)
      · unfold wpY_give
        try dsimp only
        exact ay_isFact (fun _ => ag_y (br_t y1 h)) (fun q => absurd F q)
    · by_cases y2 : y ≤ 20
      · have hi : vp_in x 12 := by rw [e]; exact vp_in_nI hj (by decide)
        have hcl : x.toNatClampNeg = j := by rw [e]; exact nI_clamp (by omega)
        have hy : ∃ q, q ≤ 20 ∧ y = nI q := nI_of2 (M := 20) (by decide) (fun t => y1 (Int32.lt_trans t (by decide))) y2
        by_cases z : p j = 0
        · by_cases f8 : ag_cn p 12 = 8
          · refine ⟨-2, p, hp, hn, fun post h => ?_, fun post h => ?_⟩
            · unfold wpX_give
              try dsimp only
              rw [hcl]
              refine ax_isFact (fun _ => ag_y (br_f y1 (br_t y2 ⟨hi, nm_e (br_t z (ax_givenCount (br_f ?_ h)))⟩))) (fun q => absurd F q)
              rw [f8, ← ag_l8]
              exact nI_nlt (by omega) (by omega)
            · unfold wpY_give
              try dsimp only
              rw [hcl]
              refine ay_isFact (fun _ => ag_y (br_f y1 (br_t y2 ⟨hi, br_t z (ay_given hp (ay_sizeOf (br_t ?_ h)))⟩))) (fun q => absurd F q)
              rw [ag_szg, f8, ← ag_l8]
          · refine ⟨p j, upd p j y, ac_hpu hp j hy, ac_cnu hj hn (fun _ => by omega), fun post h => ?_, fun post h => ?_⟩
            · unfold wpX_give
              try dsimp only
              rw [hcl]
              refine ax_isFact (fun _ => ag_y (br_f y1 (br_t y2 ⟨hi, nm_e (br_t z (ax_givenCount (br_t ?_ ⟨hi, nm_e h⟩)))⟩))) (fun q => absurd F q)
              rw [← ag_l8]
              exact nI_lt (by omega) (by omega)
            · unfold wpY_give
              try dsimp only
              rw [hcl]
              refine ay_isFact (fun _ => ag_y (br_f y1 (br_t y2 ⟨hi, br_t z (ay_given hp (ay_sizeOf (br_f ?_ ?_)))⟩))) (fun q => absurd F q)
              · rw [ag_szg, ← ag_l8, nI_eq (by omega) (by omega)]
                exact f8
              · unfold wY_give_46
                rw [hcl]
                exact ⟨hi, nm_e ⟨hi, nm_e h⟩⟩
        · refine ⟨p j, upd p j y, ac_hpu hp j hy, ac_cnu hj hn (fun t => absurd t z), fun post h => ?_, fun post h => ?_⟩
          · unfold wpX_give
            try dsimp only
            rw [hcl]
            exact ax_isFact (fun _ => ag_y (br_f y1 (br_t y2 ⟨hi, nm_e (br_f z ⟨hi, nm_e h⟩)⟩))) (fun q => absurd F q)
          · unfold wpY_give
            try dsimp only
            rw [hcl]
            refine ay_isFact (fun _ => ag_y (br_f y1 (br_t y2 ⟨hi, br_f z ?_⟩))) (fun q => absurd F q)
            unfold wY_give_46
            rw [hcl]
            exact ⟨hi, nm_e ⟨hi, nm_e h⟩⟩
      · refine ⟨-1, p, hp, hn, fun post h => ?_, fun post h => ?_⟩
        · unfold wpX_give
          try dsimp only
          exact ax_isFact (fun _ => ag_y (br_f y1 (br_f y2 h))) (fun q => absurd F q)
        · unfold wpY_give
          try dsimp only
          exact ay_isFact (fun _ => ag_y (br_f y1 (br_f y2 h))) (fun q => absurd F q)
  · refine ⟨-1, p, hp, hn, fun post h => ?_, fun post h => ?_⟩
    · unfold wpX_give
      try dsimp only
      exact ax_isFact (fun q => absurd q F) (fun _ => ag_n h)
    · unfold wpY_give
      try dsimp only
      exact ay_isFact (fun q => absurd q F) (fun _ => ag_n h)
theorem ac_take (hp : ∀ j, ∃ q, q ≤ 20 ∧ p j = nI q) (hn : ag_cn p 12 ≤ 8) (x : Int32) : ∃ r p', (∀ j, ∃ q, q ≤ 20 ∧ p' j = nI q) ∧ ag_cn p' 12 ≤ 8 ∧ (∀ post : Int32 → SX → Prop, post r (nI c, g, p', nd, yl) → wpX_take post (nI c, g, p, nd, yl) x) ∧ (∀ post : Int32 → SY → Prop, post r (nI c, g, p', nd, yl) → wpY_take post (nI c, g, p, nd, yl) x) := by
  by_cases F : ag_F x
  · obtain ⟨j, hj, e⟩ := F
    have F : ag_F x := ⟨j, hj, e⟩
    have hi : vp_in x 12 := by rw [e]; exact vp_in_nI hj (by decide)
    have hcl : x.toNatClampNeg = j := by rw [e]; exact nI_clamp (by omega)
    by_cases z : p j = 0
    · refine ⟨-4, p, hp, hn, fun post h => ?_, fun post h => ?_⟩
      · unfold wpX_take
        try dsimp only
        rw [hcl]
        exact ax_isFact (fun _ => ag_y ⟨hi, nm_e (br_t z h)⟩) (fun q => absurd F q)
      · unfold wpY_take
        try dsimp only
        rw [hcl]
        exact ay_isFact (fun _ => ag_y ⟨hi, br_t z h⟩) (fun q => absurd F q)
    · refine ⟨p j, upd p j 0, ac_hpu hp j ⟨0, by omega, nI_0.symm⟩, ac_cnu hj hn (fun t => absurd t z), fun post h => ?_, fun post h => ?_⟩
      · unfold wpX_take
        try dsimp only
        rw [hcl]
        exact ax_isFact (fun _ => ag_y ⟨hi, nm_e (br_f z ⟨hi, nm_e h⟩)⟩) (fun q => absurd F q)
      · unfold wpY_take
        try dsimp only
        rw [hcl]
        exact ay_isFact (fun _ => ag_y ⟨hi, br_f z ⟨hi, nm_e ⟨hi, nm_e h⟩⟩⟩) (fun q => absurd F q)
  · refine ⟨-1, p, hp, hn, fun post h => ?_, fun post h => ?_⟩
    · unfold wpX_take
      try dsimp only
      exact ax_isFact (fun q => absurd q F) (fun _ => ag_n h)
    · unfold wpY_take
      try dsimp only
      exact ay_isFact (fun q => absurd q F) (fun _ => ag_n h)
theorem ac_rule (hc : c ≤ 14) (x y : Int32) : ∃ r c' nd' yl', c' ≤ 14 ∧ (∀ post : Int32 → SX → Prop, post r (nI c', g, p, nd', yl') → wpX_rule post (nI c, g, p, nd, yl) x y) ∧ (∀ post : Int32 → SY → Prop, post r (nI c', g, p, nd', yl') → wpY_rule post (nI c, g, p, nd, yl) x y) := by
  by_cases a : x < 0
  · refine ⟨-1, c, nd, yl, hc, fun post h => ?_, fun post h => ?_⟩
    · unfold wpX_rule
      try dsimp only
      exact ac_isSetX (fun q => absurd a q) (fun _ => ag_n h)
    · exact br_t a h
  · by_cases b : 4095 < x
    · refine ⟨-1, c, nd, yl, hc, fun post h => ?_, fun post h => ?_⟩
      · unfold wpX_rule
        try dsimp only
        exact ac_isSetX (fun _ q => absurd b q) (fun _ => ag_n h)
      · exact br_f a (br_t b h)
    · have ab : x < 0 ∨ 4095 < x → False := fun t => t.elim a b
      by_cases F : ag_F y
      · by_cases f : c = 14
        · have h1 : ¬ nI c < 14 := by rw [f, ← ag_l14]; exact nI_nlt (by omega) (by omega)
          have h2 : nI c = 14 := by rw [f, ag_l14]
          refine ⟨-2, c, nd, yl, hc, fun post h => ?_, fun post h => ?_⟩
          · unfold wpX_rule
            try dsimp only
            exact ac_isSetX (fun _ _ => ag_y (ax_isFact (fun _ => ag_y (br_f h1 h)) (fun q => absurd F q))) (fun q => (ab q).elim)
          · exact br_f a (br_f b (ay_isFact (fun _ => ag_y (br_t h2 h)) (fun q => absurd F q)))
        · have h1 : nI c < 14 := by rw [← ag_l14]; exact nI_lt (by omega) (by omega)
          have h2 : ¬ nI c = 14 := by rw [← ag_l14, nI_eq (by omega) (by omega)]; exact f
          have hi : vp_in (nI c) 14 := vp_in_nI (by omega) (by decide)
          have hcl : (nI c).toNatClampNeg = c := nI_clamp (by omega)
          refine ⟨nI c, c + 1, upd nd c x, upd yl c y, by omega, fun post h => ?_, fun post h => ?_⟩
          · unfold wpX_rule
            try dsimp only
            rw [hcl]
            exact ac_isSetX (fun _ _ => ag_y (ax_isFact (fun _ => ag_y (br_t h1 ⟨hi, nm_e ⟨hi, nm_e (nm_r (nI_1 c) h)⟩⟩)) (fun q => absurd F q))) (fun q => (ab q).elim)
          · unfold wpY_rule
            try dsimp only
            rw [hcl]
            refine br_f a (br_f b (ay_isFact (fun _ => ag_y (br_f h2 ⟨hi, nm_e ⟨hi, nm_e (nm_r (nI_1 c) ?_)⟩⟩)) (fun q => absurd F q)))
            rw [nI_pred]
            exact h
      · refine ⟨-1, c, nd, yl, hc, fun post h => ?_, fun post h => ?_⟩
        · unfold wpX_rule
          try dsimp only
          exact ac_isSetX (fun _ _ => ag_y (ax_isFact (fun q => absurd q F) (fun _ => ag_n h))) (fun q => (ab q).elim)
        · exact br_f a (br_f b (ay_isFact (fun q => absurd q F) (fun _ => ag_n h)))
theorem ac_unrule (hc : c ≤ 14) : ∃ r c', c' ≤ 14 ∧ (∀ post : Int32 → SX → Prop, post r (nI c', g, p, nd, yl) → wpX_unrule post (nI c, g, p, nd, yl)) ∧ (∀ post : Int32 → SY → Prop, post r (nI c', g, p, nd, yl) → wpY_unrule post (nI c, g, p, nd, yl)) := by
  cases c with
  | zero =>
    have h1 : ¬ (0 : Int32) < nI 0 := by decide
    have h2 : nI 0 = 0 := nI_0
    exact ⟨-4, 0, hc, fun post h => br_f h1 h, fun post h => br_t h2 h⟩
  | succ m =>
    have h1 : (0 : Int32) < nI (m + 1) := by rw [← nI_0]; exact nI_lt (by omega) (by omega)
    have h2 : ¬ nI (m + 1) = 0 := nI_ne0 (by omega) (by omega)
    exact ⟨nI m, m, by omega, fun post h => br_t h1 (nm_r (nI_pred m) h), fun post h => br_f h2 (nm_r (nI_pred m) h)⟩
theorem ac_goal (x : Int32) : ∃ r g', (∀ post : Int32 → SX → Prop, post r (nI c, g', p, nd, yl) → wpX_goal post (nI c, g, p, nd, yl) x) ∧ (∀ post : Int32 → SY → Prop, post r (nI c, g', p, nd, yl) → wpY_goal post (nI c, g, p, nd, yl) x) := by
  by_cases F : ag_F x
  · refine ⟨g, x, fun post h => ?_, fun post h => ?_⟩
    · unfold wpX_goal
      try dsimp only
      exact ax_isFact (fun _ => ag_y h) (fun q => absurd F q)
    · unfold wpY_goal
      try dsimp only
      exact ay_isFact (fun _ => ag_y h) (fun q => absurd F q)
  · refine ⟨-1, g, fun post h => ?_, fun post h => ?_⟩
    · unfold wpX_goal
      try dsimp only
      exact ax_isFact (fun q => absurd q F) (fun _ => ag_n h)
    · unfold wpY_goal
      try dsimp only
      exact ay_isFact (fun q => absurd q F) (fun _ => ag_n h)
theorem ac_cheapestX (hc : c ≤ 14) {post : Int32 → Prop} (h : post (ag_cs c g p nd yl 0)) : wpX_cheapestShield post (nI c, g, p, nd, yl) := by
  unfold wpX_cheapestShield
  try dsimp only
  exact ax_cs (post := post) hc h
theorem ac_cheapestY (hc : c ≤ 14) (hp : ∀ j, ∃ q, q ≤ 20 ∧ p j = nI q) {post : Int32 → Prop} (h : post (ag_cs c g p nd yl 0)) : wpY_cheapestShield post (nI c, g, p, nd, yl) := by
  unfold wpY_cheapestShield
  try dsimp only
  exact ay_cs (post := post) hc hp h
end
end
section
/-- both sides hold the same prices, needs, yields, count and goal; at most 14 rules, prices up to 20, at most 8 facts given -/
def i_Rel (_ : Nat) (u : SX) (v : SY) : Prop := ∃ (c : Nat) (g : Int32) (p nd yl : Nat → Int32), u = (nI c, g, p, nd, yl) ∧ v = (nI c, g, p, nd, yl) ∧ c ≤ 14 ∧ (∀ j, ∃ q, q ≤ 20 ∧ p j = nI q) ∧ ag_cn p 12 ≤ 8
theorem i_up {k : Nat} {u : SX} {v : SY} (h : i_Rel k u v) : i_Rel (k + 3) u v := h
theorem i_vc0 : wpX_init (fun u => wpY_init (fun v => i_Rel 0 u v)) :=
  ⟨0, 0, fun _ => 0, fun _ => 0, fun _ => 0, rfl, rfl, by omega, fun _ => ⟨0, by omega, nI_0.symm⟩, by decide⟩
theorem i_vc_give {k : Nat} {u : SX} {v : SY} (I : i_Rel k u v) (hk : k + 3 ≤ 1536) (v1 : Int32) (v2 : Int32) : wpX_give (fun r u' => wpY_give (fun r' v' => r' = r ∧ i_Rel (k + 3) u' v') v v1 v2) u v1 v2 := by
  obtain ⟨c, g, p, nd, yl, rfl, rfl, hc, hp, hn⟩ := I
  obtain ⟨r, p', hp', hn', hX, hY⟩ := ac_give (c := c) (g := g) (p := p) (nd := nd) (yl := yl) hp hn v1 v2
  exact hX _ (hY _ ⟨rfl, c, g, p', nd, yl, rfl, rfl, hc, hp', hn'⟩)
theorem i_vc_take {k : Nat} {u : SX} {v : SY} (I : i_Rel k u v) (hk : k + 3 ≤ 1536) (v1 : Int32) : wpX_take (fun r u' => wpY_take (fun r' v' => r' = r ∧ i_Rel (k + 3) u' v') v v1) u v1 := by
  obtain ⟨c, g, p, nd, yl, rfl, rfl, hc, hp, hn⟩ := I
  obtain ⟨r, p', hp', hn', hX, hY⟩ := ac_take (c := c) (g := g) (p := p) (nd := nd) (yl := yl) hp hn v1
  exact hX _ (hY _ ⟨rfl, c, g, p', nd, yl, rfl, rfl, hc, hp', hn'⟩)
theorem i_vc_rule {k : Nat} {u : SX} {v : SY} (I : i_Rel k u v) (hk : k + 3 ≤ 1536) (v1 : Int32) (v2 : Int32) : wpX_rule (fun r u' => wpY_rule (fun r' v' => r' = r ∧ i_Rel (k + 3) u' v') v v1 v2) u v1 v2 := by
  obtain ⟨c, g, p, nd, yl, rfl, rfl, hc, hp, hn⟩ := I
  obtain ⟨r, c', nd', yl', hc', hX, hY⟩ := ac_rule (c := c) (g := g) (p := p) (nd := nd) (yl := yl) hc v1 v2
  exact hX _ (hY _ ⟨rfl, c', g, p, nd', yl', rfl, rfl, hc', hp, hn⟩)
theorem i_vc_unrule {k : Nat} {u : SX} {v : SY} (I : i_Rel k u v) (hk : k + 3 ≤ 1536) : wpX_unrule (fun r u' => wpY_unrule (fun r' v' => r' = r ∧ i_Rel (k + 3) u' v') v) u := by
  obtain ⟨c, g, p, nd, yl, rfl, rfl, hc, hp, hn⟩ := I
  obtain ⟨r, c', hc', hX, hY⟩ := ac_unrule (c := c) (g := g) (p := p) (nd := nd) (yl := yl) hc
  exact hX _ (hY _ ⟨rfl, c', g, p, nd, yl, rfl, rfl, hc', hp, hn⟩)
theorem i_vc_rules {k : Nat} {u : SX} {v : SY} (I : i_Rel k u v) (hk : k + 3 ≤ 1536) : wpX_rules (fun r => wpY_rules (fun r' => r' = r ∧ i_Rel (k + 3) u v) v) u := by
  obtain ⟨c, g, p, nd, yl, rfl, rfl, hc, hp, hn⟩ := I
  exact ⟨rfl, c, g, p, nd, yl, rfl, rfl, hc, hp, hn⟩
theorem i_vc_goal {k : Nat} {u : SX} {v : SY} (I : i_Rel k u v) (hk : k + 3 ≤ 1536) (v1 : Int32) : wpX_goal (fun r u' => wpY_goal (fun r' v' => r' = r ∧ i_Rel (k + 3) u' v') v v1) u v1 := by
  obtain ⟨c, g, p, nd, yl, rfl, rfl, hc, hp, hn⟩ := I
  obtain ⟨r, g', hX, hY⟩ := ac_goal (c := c) (g := g) (p := p) (nd := nd) (yl := yl) v1
  exact hX _ (hY _ ⟨rfl, c, g', p, nd, yl, rfl, rfl, hc, hp, hn⟩)
theorem i_vc_given {k : Nat} {u : SX} {v : SY} (I : i_Rel k u v) (hk : k + 3 ≤ 1536) : wpX_given (fun r => wpY_given (fun r' => r' = r ∧ i_Rel (k + 3) u v) v) u := by
  obtain ⟨c, g, p, nd, yl, rfl, rfl, hc, hp, hn⟩ := I
  exact ax_given (ay_given hp ⟨rfl, c, g, p, nd, yl, rfl, rfl, hc, hp, hn⟩)
theorem i_vc_reached {k : Nat} {u : SX} {v : SY} (I : i_Rel k u v) (hk : k + 3 ≤ 1536) : wpX_reached (fun r => wpY_reached (fun r' => r' = r ∧ i_Rel (k + 3) u v) v) u := by
  obtain ⟨c, g, p, nd, yl, rfl, rfl, hc, hp, hn⟩ := I
  exact ax_reached hc (ay_reached hc hp ⟨rfl, c, g, p, nd, yl, rfl, rfl, hc, hp, hn⟩)
theorem i_vc_supports {k : Nat} {u : SX} {v : SY} (I : i_Rel k u v) (hk : k + 3 ≤ 1536) (v1 : Int32) : wpX_supports (fun r => wpY_supports (fun r' => r' = r ∧ i_Rel (k + 3) u v) v v1) u v1 := by
  obtain ⟨c, g, p, nd, yl, rfl, rfl, hc, hp, hn⟩ := I
  obtain ⟨r, hX, hY⟩ := ac_supports (c := c) (g := g) (p := p) (nd := nd) (yl := yl) hc hp v1
  exact hX _ (hY _ ⟨rfl, c, g, p, nd, yl, rfl, rfl, hc, hp, hn⟩)
theorem i_vc_leastSupports {k : Nat} {u : SX} {v : SY} (I : i_Rel k u v) (hk : k + 3 ≤ 1536) : wpX_leastSupports (fun r => wpY_leastSupports (fun r' => r' = r ∧ i_Rel (k + 3) u v) v) u := by
  obtain ⟨c, g, p, nd, yl, rfl, rfl, hc, hp, hn⟩ := I
  exact ax_leastSupports hc (ay_leastSupports hc hp ⟨rfl, c, g, p, nd, yl, rfl, rfl, hc, hp, hn⟩)
theorem i_vc_cheapestSupport {k : Nat} {u : SX} {v : SY} (I : i_Rel k u v) (hk : k + 3 ≤ 1536) : wpX_cheapestSupport (fun r => wpY_cheapestSupport (fun r' => r' = r ∧ i_Rel (k + 3) u v) v) u := by
  obtain ⟨c, g, p, nd, yl, rfl, rfl, hc, hp, hn⟩ := I
  exact ax_cheapestSupport hc (ay_cheapestSupport hc hp ⟨rfl, c, g, p, nd, yl, rfl, rfl, hc, hp, hn⟩)
theorem i_vc_cheapestShield {k : Nat} {u : SX} {v : SY} (I : i_Rel k u v) (hk : k + 3 ≤ 1536) : wpX_cheapestShield (fun r => wpY_cheapestShield (fun r' => r' = r ∧ i_Rel (k + 3) u v) v) u := by
  obtain ⟨c, g, p, nd, yl, rfl, rfl, hc, hp, hn⟩ := I
  exact ac_cheapestX hc (ac_cheapestY hc hp ⟨rfl, c, g, p, nd, yl, rfl, rfl, hc, hp, hn⟩)
theorem i_vc_shield {k : Nat} {u : SX} {v : SY} (I : i_Rel k u v) (hk : k + 3 ≤ 1536) : wpX_shield (fun r => wpY_shield (fun r' => r' = r ∧ i_Rel (k + 3) u v) v) u := by
  obtain ⟨c, g, p, nd, yl, rfl, rfl, hc, hp, hn⟩ := I
  unfold wpX_shield
  try dsimp only
  refine ax_best hc ?_
  unfold wpY_shield
  try dsimp only
  exact ay_best hc hp ⟨rfl, c, g, p, nd, yl, rfl, rfl, hc, hp, hn⟩
theorem i_vc_smallestShield {k : Nat} {u : SX} {v : SY} (I : i_Rel k u v) (hk : k + 3 ≤ 1536) : wpX_smallestShield (fun r => wpY_smallestShield (fun r' => r' = r ∧ i_Rel (k + 3) u v) v) u := by
  obtain ⟨c, g, p, nd, yl, rfl, rfl, hc, hp, hn⟩ := I
  exact ax_smallestShield hc (ay_smallestShield hc hp ⟨rfl, c, g, p, nd, yl, rfl, rfl, hc, hp, hn⟩)
theorem i_vc_vital {k : Nat} {u : SX} {v : SY} (I : i_Rel k u v) (hk : k + 3 ≤ 1536) : wpX_vital (fun r => wpY_vital (fun r' => r' = r ∧ i_Rel (k + 3) u v) v) u := by
  obtain ⟨c, g, p, nd, yl, rfl, rfl, hc, hp, hn⟩ := I
  exact ax_vital hc (ay_vital hc hp ⟨rfl, c, g, p, nd, yl, rfl, rfl, hc, hp, hn⟩)
theorem i_vc_useful {k : Nat} {u : SX} {v : SY} (I : i_Rel k u v) (hk : k + 3 ≤ 1536) : wpX_useful (fun r => wpY_useful (fun r' => r' = r ∧ i_Rel (k + 3) u v) v) u := by
  obtain ⟨c, g, p, nd, yl, rfl, rfl, hc, hp, hn⟩ := I
  exact ax_useful hc (ay_useful hc hp ⟨rfl, c, g, p, nd, yl, rfl, rfl, hc, hp, hn⟩)
theorem i_vc_shieldWith {k : Nat} {u : SX} {v : SY} (I : i_Rel k u v) (hk : k + 3 ≤ 1536) (v1 : Int32) : wpX_shieldWith (fun r => wpY_shieldWith (fun r' => r' = r ∧ i_Rel (k + 3) u v) v v1) u v1 := by
  obtain ⟨c, g, p, nd, yl, rfl, rfl, hc, hp, hn⟩ := I
  obtain ⟨r, hX, hY⟩ := ac_shieldWith (c := c) (g := g) (p := p) (nd := nd) (yl := yl) hc hp v1
  exact hX _ (hY _ ⟨rfl, c, g, p, nd, yl, rfl, rfl, hc, hp, hn⟩)
end
