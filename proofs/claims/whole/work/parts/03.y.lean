section
variable {c : Nat} {g : Int32} {p nd yl : Nat → Int32}
theorem ay_isFact {post : Int32 → Prop} {x : Int32} (h1 : ag_F x → post 1) (h0 : ¬ ag_F x → post 0) : wpY_isFact post (nI c, g, p, nd, yl) x := by
  refine br_c (fun h => h0 ?_) (fun h => br_c (fun h2 => h0 ?_) (fun h2 => h1 ?_))
  · rintro ⟨j, hj, e⟩
    rw [e] at h
    exact nI_pos (by omega) h
  · rintro ⟨j, hj, e⟩
    rw [e, ← ag_l11] at h2
    exact nI_nlt (by omega) (by omega) h2
  · obtain ⟨j, hj, e⟩ := nI_of h
    rw [e, ← ag_l11, nI_ltI (by omega) hj] at h2
    exact ⟨j, by omega, e⟩
theorem ay_has {post : Int32 → Prop} {s f : Int32} (h1 : ag_has s f = true → post 1) (h0 : ag_has s f = false → post 0) : wpY_has post (nI c, g, p, nd, yl) s f :=
  br_c (fun h => h1 (decide_eq_true h)) (fun h => h0 (decide_eq_false h))
theorem ay_given (hp : ∀ j, ∃ q, q ≤ 20 ∧ p j = nI q) {post : Int32 → Prop} (h : post (ag_gv p)) : wpY_given post (nI c, g, p, nd, yl) :=
  ag_loop (fun n i s => wY_given_4 post (nI c) g p nd yl n s (nI i)) (fun f s => if p f = 0 then s else s ||| ((1 : Int32) <<< (nI f &&& 31))) 12 0
    (fun n => br_t ag_le12 h)
    (fun n i s hi _ k => br_f (ag_ge12 hi) ⟨vp_in_nI hi (by decide), by
      have e := ag_cl p (show i < 4096 by omega)
      rw [e]
      by_cases z : p i = 0
      · exact br_t ((ag_le0 hp i).mpr z) (nm_r (nI_1 i) (k _ (if_pos z)))
      · exact br_f (fun t => z ((ag_le0 hp i).mp t)) (nm_e (nm_r (nI_1 i) (k _ (if_neg z))))⟩)
theorem ag_szs (s : Int32) (i : Nat) (z : Int32) : z + ((s >>> (nI i &&& 31)) &&& 1) = if ag_has s (nI i) = true then z + 1 else z := by
  by_cases b : ag_has s (nI i) = true
  · have e : (s >>> (nI i &&& 31)) &&& 1 = 1 := of_decide_eq_true b
    rw [if_pos b, e]
  · have e : (s >>> (nI i &&& 31)) &&& 1 = 0 := ag_zo _ (fun t => b (decide_eq_true t))
    rw [if_neg b, e, Int32.add_zero]
theorem ay_sizeOf {post : Int32 → Prop} {s : Int32} (h : post (ag_sz s)) : wpY_sizeOf post (nI c, g, p, nd, yl) s :=
  ag_loop (fun n i z => wY_sizeOf_4 post s (nI c) g p nd yl n z (nI i)) (fun f z => if ag_has s (nI f) = true then z + 1 else z) 12 0
    (fun n => br_t ag_le12 h)
    (fun n i z hi _ k => br_f (ag_ge12 hi) (nm_r (ag_szs s i z) (nm_r (nI_1 i) (k _ rfl))))
theorem ay_costOf {post : Int32 → Prop} {s : Int32} (h : post (ag_cost p s)) : wpY_costOf post (nI c, g, p, nd, yl) s :=
  ag_loop (fun n i z => wY_costOf_4 post s (nI c) g p nd yl n z (nI i)) (fun f z => if ag_has s (nI f) = true then z + p f else z) 12 0
    (fun n => br_t ag_le12 h)
    (fun n i z hi _ k => br_f (ag_ge12 hi) (ay_has
      (fun b => ag_y ⟨vp_in_nI hi (by decide), nm_r (e' := z + p i) (by rw [ag_cl p (show i < 4096 by omega)]) (nm_r (nI_1 i) (k _ (if_pos b)))⟩)
      (fun b => ag_n (nm_r (nI_1 i) (k _ (if_neg (ag_ff b)))))))
theorem ay_inner (hc : c ≤ 14) {post : Int32 → Prop} {J4 : Int32 → Int32 → Prop} {x3 s : Int32} (h : J4 (ag_rd c nd yl s) (x3 + 1)) : ∃ n, wY_reach_13 post J4 x3 (nI c) g p nd yl n s 0 :=
  ag_loop (fun n i s => wY_reach_13 post J4 x3 (nI c) g p nd yl n s (nI i)) (fun r s => if s &&& nd r = nd r then s ||| ((1 : Int32) <<< (yl r &&& 31)) else s) c s
    (fun n => br_t (nI_le (Nat.le_refl c) (by omega)) (nm_e h))
    (fun n i s hi _ k => br_f (nI_ge hi (by omega)) ⟨vp_in_nI (by omega) (by decide), vp_in_nI (by omega) (by decide), by
      rw [ag_cl nd (show i < 4096 by omega), ag_cl yl (show i < 4096 by omega)]
      exact br_c
        (fun b => ⟨vp_in_nI (by omega) (by decide), nm_e (nm_r (nI_1 i) (k _ (if_pos b)))⟩)
        (fun b => nm_r (nI_1 i) (k _ (if_neg b)))⟩)
theorem ay_reach (hc : c ≤ 14) {post : Int32 → Prop} {s : Int32} (h : post (ag_rc c nd yl s)) : wpY_reach post (nI c, g, p, nd, yl) s :=
  ag_loop (fun n i t => wY_reach_4 post (nI c) g p nd yl n t (nI i)) (fun _ => ag_rd c nd yl) 12 s
    (fun n => br_t ag_le12 h)
    (fun n i t hi e k => br_f (ag_ge12 hi) (ay_inner hc (by rw [nI_1 i]; exact k _ rfl)))
theorem ay_isSupport (hc : c ≤ 14) {post : Int32 → Prop} {s : Int32} (h1 : ag_sup c g nd yl s = true → post 1) (h0 : ag_sup c g nd yl s = false → post 0) : wpY_isSupport post (nI c, g, p, nd, yl) s := by
  unfold wpY_isSupport
  try dsimp only
  exact ay_reach hc (ay_has (fun b => ⟨rfl, h1 b⟩) (fun b => ⟨rfl, h0 b⟩))
theorem ay_reached (hc : c ≤ 14) (hp : ∀ j, ∃ q, q ≤ 20 ∧ p j = nI q) {post : Int32 → Prop} (h : post (ag_rc c nd yl (ag_gv p))) : wpY_reached post (nI c, g, p, nd, yl) := by
  unfold wpY_reached
  try dsimp only
  exact ay_given hp (ay_reach hc h)
theorem ay_isLeast (hc : c ≤ 14) {post : Int32 → Prop} {s : Int32} (h1 : ag_lst c g nd yl s = true → post 1) (h0 : ag_lst c g nd yl s = false → post 0) : wpY_isLeast post (nI c, g, p, nd, yl) s := by
  unfold wpY_isLeast
  try dsimp only
  refine ay_isSupport hc (fun b => ag_y ?_) (fun b => ag_n (h0 (by unfold ag_lst; rw [b]; rfl)))
  refine loop_0 (fun n i (_ : Unit) => wY_isLeast_12 post s (nI c) g p nd yl n (nI i)) (fun i _ => ag_nl c g nd yl s i = true) 12 () rfl (fun n _ I => br_t ag_le12 (h1 (by
    have I' : ag_nl c g nd yl s 12 = true := I
    unfold ag_lst
    rw [b, I']
    rfl))) ?_
  intro n i _ hi I k
  have I' : ag_nl c g nd yl s i = true := I
  refine br_f (ag_ge12 hi) (ay_has (fun q => ag_y (ay_isSupport hc (fun r => ag_y (h0 ?_)) (fun r => ag_n (nm_r (nI_1 i) (k () ?_))))) (fun q => ag_n (nm_r (nI_1 i) (k () ?_))))
  · unfold ag_lst
    rw [ag_nl_false c g nd yl s i q r 12 hi]
    simp
  · show (ag_nl c g nd yl s i && !(ag_has s (nI i) && ag_sup c g nd yl (ag_wo s i))) = true
    have r' : ag_sup c g nd yl (ag_wo s i) = false := r
    rw [I', r']
    simp
  · show (ag_nl c g nd yl s i && !(ag_has s (nI i) && ag_sup c g nd yl (ag_wo s i))) = true
    rw [I', q]
    rfl
theorem ay_isShield (hc : c ≤ 14) (hp : ∀ j, ∃ q, q ≤ 20 ∧ p j = nI q) {post : Int32 → Prop} {s : Int32} (h1 : s &&& ag_gv p = s → ag_sup c g nd yl (ag_gv p &&& (s ^^^ (-1))) = false → post 1) (h0 : ¬ (s &&& ag_gv p = s ∧ ag_sup c g nd yl (ag_gv p &&& (s ^^^ (-1))) = false) → post 0) : wpY_isShield post (nI c, g, p, nd, yl) s := by
  unfold wpY_isShield
  try dsimp only
  exact ay_given hp (br_c
    (fun a => ay_isSupport hc (fun b => ag_y (h0 (fun t => ag_tf b t.2))) (fun b => ag_n (h1 a b)))
    (fun a => h0 (fun t => a t.1)))
theorem ay_leastSupports (hc : c ≤ 14) (hp : ∀ j, ∃ q, q ≤ 20 ∧ p j = nI q) {post : Int32 → Prop} (h : post (ag_least c g p nd yl)) : wpY_leastSupports post (nI c, g, p, nd, yl) := by
  obtain ⟨a, ha, e⟩ := ag_gvN p
  rw [ag_leastY c g p nd yl a ha e] at h
  unfold wpY_leastSupports
  try dsimp only
  refine ay_given hp ?_
  exact ag_loop (fun n i z => wY_leastSupports_9 post (ag_gv p) (nI c) g p nd yl n z (nI i)) (ag_sLeast c g nd yl (ag_gv p)) (a + 1) 0
    (fun n => br_t (ag_end ha e) h)
    (fun n i z hi _ k => br_f (ag_go ha e hi) (br_c
      (fun s => ay_isLeast hc
        (fun b => ag_y (nm_e (nm_r (nI_1 i) (k _ (if_pos ⟨s, b⟩)))))
        (fun b => ag_n (nm_r (nI_1 i) (k _ (if_neg (fun t => ag_ff b t.2))))))
      (fun s => nm_r (nI_1 i) (k _ (if_neg (fun t => s t.1))))))
theorem ay_useful (hc : c ≤ 14) (hp : ∀ j, ∃ q, q ≤ 20 ∧ p j = nI q) {post : Int32 → Prop} (h : post (ag_use c g p nd yl)) : wpY_useful post (nI c, g, p, nd, yl) := by
  obtain ⟨a, ha, e⟩ := ag_gvN p
  rw [ag_useY c g p nd yl a ha e] at h
  unfold wpY_useful
  try dsimp only
  refine ay_given hp ?_
  exact ag_loop (fun n i z => wY_useful_9 post (ag_gv p) (nI c) g p nd yl n z (nI i)) (ag_sUse c g nd yl (ag_gv p)) (a + 1) 0
    (fun n => br_t (ag_end ha e) h)
    (fun n i z hi _ k => br_f (ag_go ha e hi) (br_c
      (fun s => ay_isLeast hc
        (fun b => ag_y (nm_e (nm_r (nI_1 i) (k _ (if_pos ⟨s, b⟩)))))
        (fun b => ag_n (nm_r (nI_1 i) (k _ (if_neg (fun t => ag_ff b t.2))))))
      (fun s => nm_r (nI_1 i) (k _ (if_neg (fun t => s t.1))))))
theorem ay_cs37 (hc : c ≤ 14) {post : Int32 → Prop} {J10 : Int32 → Int32 → Prop} {x1 z : Int32} {i : Nat} (h1 : ag_sup c g nd yl (nI i) = true → J10 (ag_cost p (nI i)) (nI (i + 1))) (h0 : ag_sup c g nd yl (nI i) = false → J10 z (nI (i + 1))) : wY_cheapestSupport_37 post J10 x1 z (nI i) (nI c) g p nd yl := by
  unfold wY_cheapestSupport_37
  exact ay_isSupport hc (fun b => ag_y (ay_costOf (nm_r (nI_1 i) (h1 b)))) (fun b => ag_n (nm_r (nI_1 i) (h0 b)))
theorem ay_cheapestSupport (hc : c ≤ 14) (hp : ∀ j, ∃ q, q ≤ 20 ∧ p j = nI q) {post : Int32 → Prop} (h : post (ag_cheap c g p nd yl)) : wpY_cheapestSupport post (nI c, g, p, nd, yl) := by
  obtain ⟨a, ha, e⟩ := ag_gvN p
  rw [ag_cheapY c g p nd yl a ha e] at h
  unfold wpY_cheapestSupport
  try dsimp only
  refine ay_given hp ?_
  exact ag_loop (fun n i z => wY_cheapestSupport_10 post (ag_gv p) (nI c) g p nd yl n z (nI i)) (ag_sCheap c g p nd yl (ag_gv p)) (a + 1) (-4)
    (fun n => br_t (ag_end ha e) h)
    (fun n i z hi _ k => br_f (ag_go ha e hi) (br_c
      (fun s => br_c
        (fun q => ay_cs37 hc
          (fun b => k _ (if_pos ⟨s, b, Or.inl q⟩))
          (fun b => k _ (if_neg (fun t => ag_ff b t.2.1))))
        (fun q => ay_costOf (br_c
          (fun w => nm_r (nI_1 i) (k _ (if_neg (fun t => t.2.2.elim q (fun l => ag_nle l w)))))
          (fun w => ay_cs37 hc
            (fun b => k _ (if_pos ⟨s, b, Or.inr (ag_lt w)⟩))
            (fun b => k _ (if_neg (fun t => ag_ff b t.2.1)))))))
      (fun s => nm_r (nI_1 i) (k _ (if_neg (fun t => s t.1))))))
theorem ay_ss30 (hc : c ≤ 14) (hp : ∀ j, ∃ q, q ≤ 20 ∧ p j = nI q) {post : Int32 → Prop} {J10 : Int32 → Int32 → Prop} {x1 z : Int32} {i : Nat} (h1 : nI i &&& ag_gv p = nI i → ag_sup c g nd yl (ag_gv p &&& (nI i ^^^ (-1))) = false → J10 (ag_sz (nI i)) (nI (i + 1))) (h0 : ¬ (nI i &&& ag_gv p = nI i ∧ ag_sup c g nd yl (ag_gv p &&& (nI i ^^^ (-1))) = false) → J10 z (nI (i + 1))) : wY_smallestShield_30 post J10 x1 z (nI i) (nI c) g p nd yl := by
  unfold wY_smallestShield_30
  exact ay_isShield hc hp (fun a b => ag_y (ay_sizeOf (nm_r (nI_1 i) (h1 a b)))) (fun b => ag_n (nm_r (nI_1 i) (h0 b)))
theorem ay_smallestShield (hc : c ≤ 14) (hp : ∀ j, ∃ q, q ≤ 20 ∧ p j = nI q) {post : Int32 → Prop} (h : post (ag_small c g p nd yl)) : wpY_smallestShield post (nI c, g, p, nd, yl) := by
  obtain ⟨a, ha, e⟩ := ag_gvN p
  rw [ag_smallY c g p nd yl a ha e] at h
  unfold wpY_smallestShield
  try dsimp only
  refine ay_given hp ?_
  exact ag_loop (fun n i z => wY_smallestShield_10 post (ag_gv p) (nI c) g p nd yl n z (nI i)) (ag_sSmall c g nd yl (ag_gv p)) (a + 1) (-4)
    (fun n => br_t (ag_end ha e) h)
    (fun n i z hi _ k => br_f (ag_go ha e hi) (br_c
      (fun q => ay_ss30 hc hp
        (fun s b => k _ (if_pos ⟨s, b, Or.inl q⟩))
        (fun b => k _ (if_neg (fun t => b ⟨t.1, t.2.1⟩))))
      (fun q => ay_sizeOf (br_c
        (fun w => nm_r (nI_1 i) (k _ (if_neg (fun t => t.2.2.elim q (fun l => ag_nle l w)))))
        (fun w => ay_ss30 hc hp
          (fun s b => k _ (if_pos ⟨s, b, Or.inr (ag_lt w)⟩))
          (fun b => k _ (if_neg (fun t => b ⟨t.1, t.2.1⟩))))))))
theorem ay_vital (hc : c ≤ 14) (hp : ∀ j, ∃ q, q ≤ 20 ∧ p j = nI q) {post : Int32 → Prop} (h : post (ag_vit c g p nd yl)) : wpY_vital post (nI c, g, p, nd, yl) := by
  obtain ⟨a, ha, e⟩ := ag_gvN p
  obtain ⟨r, er, hr⟩ := ag_vitY c g p nd yl a ha e
  rw [hr] at h
  unfold wpY_vital
  try dsimp only
  refine ay_given hp ?_
  exact ag_loop (fun n i (z : Int32 × Int32) => wY_vital_12 post (ag_gv p) (nI c) g p nd yl n z.1 z.2 (nI i)) (ag_sVitY c g nd yl (ag_gv p)) (a + 1) (ag_gv p, 0)
    (fun n => by
      rw [er]
      refine br_t (ag_end ha e) (br_c (fun q => ?_) (fun q => ?_))
      · rw [if_pos q] at h
        exact h
      · rw [if_neg q] at h
        exact h)
    (fun n i z hi _ k => br_f (ag_go ha e hi) (br_c
      (fun s => ay_isSupport hc
        (fun b => ag_y (nm_e (nm_r (nI_1 i) (k (z.1 &&& nI i, 1) (if_pos ⟨s, b⟩)))))
        (fun b => ag_n (nm_r (nI_1 i) (k z (if_neg (fun t => ag_ff b t.2))))))
      (fun s => nm_r (nI_1 i) (k z (if_neg (fun t => s t.1))))))
theorem ay_best (hc : c ≤ 14) (hp : ∀ j, ∃ q, q ≤ 20 ∧ p j = nI q) {post : Int32 → Prop} {w : Int32} (h : post (ag_best c g p nd yl w)) : wpY_cheapest post (nI c, g, p, nd, yl) w := by
  obtain ⟨a, ha, e⟩ := ag_gvN p
  rw [ag_bestY c g p nd yl w hp a ha e] at h
  unfold wpY_cheapest
  try dsimp only
  refine ay_given hp ?_
  exact ag_loop (fun n i (z : Int32 × Int32) => wY_cheapest_16 post w (ag_gv p) (nI c) g p nd yl n z.1 z.2 (nI i)) (ag_sBY c g p nd yl (ag_gv p) w) (a + 1) (-4, 1000)
    (fun n => br_t (ag_end ha e) h)
    (fun n i z hi _ k => br_f (ag_go ha e hi) (br_c
      (fun s => ay_costOf (br_c
        (fun l => nm_r (nI_1 i) (k z (if_neg (fun t => ag_nle t.2.1 l))))
        (fun l => ay_isShield hc hp
          (fun a2 b => ag_y (ay_costOf (nm_r (nI_1 i) (k (nI i, ag_cost p (nI i)) (if_pos ⟨s, ag_lt l, a2, b⟩)))))
          (fun b => ag_n (nm_r (nI_1 i) (k z (if_neg (fun t => b ⟨t.2.2.1, t.2.2.2⟩))))))))
      (fun s => nm_r (nI_1 i) (k z (if_neg (fun t => s t.1))))))
theorem ay_cs (hc : c ≤ 14) (hp : ∀ j, ∃ q, q ≤ 20 ∧ p j = nI q) {post : Int32 → Prop} {w : Int32} (h : post (ag_cs c g p nd yl w)) : wpY_cheapest (fun r_1 => (((r_1 = (-4) → (post (-4))) ∧ (¬ r_1 = (-4) → (wpY_costOf (fun r_8 => (post r_8)) (nI c, g, p, nd, yl) r_1))))) (nI c, g, p, nd, yl) w := by
  unfold ag_cs at h
  refine ay_best hc hp (br_c (fun q => ?_) (fun q => ay_costOf ?_))
  · rw [if_pos q] at h
    exact h
  · rw [if_neg q] at h
    exact h
end
