/-! what the constructors make, behind any cells that are there already -/
def bN (ci N : Nat) : zCl := (ci, (N, List.replicate N none))
def rB (n : Nat) : List zCl := [(5, (2, [some (n + 1), none])), (20, (4, []))]
def uB (n : Nat) : List zCl := (7, (9, [none, none, none, some (n + 1), some (n + 3), some (n + 5), some (n + 6), some (n + 7), some (n + 8)])) :: (rB (n + 1) ++ (rB (n + 3) ++ [(20, (4, [])), (20, (26, [])), (20, (104, [])), (20, (104, []))]))
theorem cnew_s (cs : List zCl) (c s mc ms ci N : Nat) (h1 : c + 1 ≤ mc) (h2 : s + N ≤ ms) : cnew (cs, (c, s)) mc ms ci N = some (cs ++ [bN ci N], (c + 1, s + N)) := by
  simp [cnew, zob, h1, h2, bN]
theorem cnar_s (cs : List zCl) (c s mc ms t n : Nat) (ht : t < 4) (h1 : c + 1 ≤ mc) (h2 : s + n ≤ ms) : cnar (cs, (c, s)) mc ms t n = some (cs ++ [(20 + t, (n, []))], (c + 1, s + n)) := by
  simp [cnar, zob, h1, h2, show ¬ 4 ≤ t by omega]
theorem cnar_r (cs : List zCl) (c s mc ms t n : Nat) (ht : 4 ≤ t) (h1 : c + 1 ≤ mc) (h2 : s + n ≤ ms) : cnar (cs, (c, s)) mc ms t n = some (cs ++ [(20 + t, (n, List.replicate n none))], (c + 1, s + n)) := by
  simp [cnar, zob, h1, h2, ht]
theorem cadd_s (cs cs2 : List zCl) (c s mc ms c2 s2 : Nat) (h1 : c + c2 ≤ mc) (h2 : s + s2 ≤ ms) : cadd (cs, (c, s)) mc ms c2 s2 cs2 = some (cs2, (c + c2, s + s2)) := by
  simp [cadd, zob, h1, h2]
theorem cput_s (pre post : List zCl) (q : Nat × Nat) (ci N k v : Nat) (refs : List (Option Nat)) (o : Nat) (ho : o = pre.length) (hr : refs.length = N) : cput (pre ++ (ci, (N, refs)) :: post, q) o ci N k v = some (pre ++ (ci, (N, refs.set k (some v))) :: post, q) := by
  subst ho
  simp [cput, zob, hr]
theorem kR (pre : List zCl) : kX5_init pre.length (pre ++ [bN 5 2]) = some (pre ++ rB pre.length, (1, 4)) := by
  unfold kX5_init kX5_init_b
  rw [cnar_s _ _ _ _ _ _ _ (by decide) (by decide) (by decide), Option.bind_some]
  rw [List.append_assoc]
  show (cput (pre ++ (5, (2, List.replicate 2 none)) :: [(20 + 0, (4, []))], _) _ _ _ _ _).bind _ = _
  rw [cput_s pre (ho := rfl), Option.bind_some]
  · simp [zob, rB, List.replicate]
  all_goals rfl
theorem kR' (cs : List zCl) (o : Nat) (ho : o = cs.length) : kX5_init o (cs ++ [bN 5 2]) = some (cs ++ rB o, (1, 4)) := by subst ho; exact kR cs
theorem kU (pre : List zCl) : kX7_init pre.length (pre ++ [bN 7 9]) = some (pre ++ uB pre.length, (8, 250)) := by
  unfold kX7_init kX7_init_b
  rw [cnew_s _ _ _ _ _ _ _ (by decide) (by decide), Option.bind_some]
  dsimp only
  rw [kR, Option.bind_some]
  dsimp only
  rw [cadd_s _ _ _ _ _ _ _ _ (by decide) (by decide), Option.bind_some]
  rw [show (pre ++ [bN 7 9]).length = pre.length + 1 by simp, List.append_assoc]
  show (cput (pre ++ (7, (9, List.replicate 9 none)) :: rB (pre.length + 1), _) _ _ _ _ _).bind _ = _
  rw [cput_s pre (ho := rfl), Option.bind_some]
  rw [cnew_s _ _ _ _ _ _ _ (by decide) (by decide), Option.bind_some]
  dsimp only
  rw [kR, Option.bind_some]
  dsimp only
  rw [cadd_s _ _ _ _ _ _ _ _ (by decide) (by decide), Option.bind_some]
  rw [show (pre ++ (7, (9, (List.replicate 9 none).set 3 (some (pre.length + 1)))) :: rB (pre.length + 1)).length = pre.length + 3 by simp [rB]]
  rw [List.append_assoc, List.cons_append]
  rw [cput_s pre (ho := rfl), Option.bind_some]
  rw [cnar_s _ _ _ _ _ _ _ (by decide) (by decide) (by decide), Option.bind_some]
  dsimp only
  rw [List.append_assoc, List.cons_append, cput_s pre (ho := rfl), Option.bind_some]
  rw [cnar_s _ _ _ _ _ _ _ (by decide) (by decide) (by decide), Option.bind_some]
  dsimp only
  rw [List.append_assoc, List.cons_append, cput_s pre (ho := rfl), Option.bind_some]
  rw [cnar_s _ _ _ _ _ _ _ (by decide) (by decide) (by decide), Option.bind_some]
  dsimp only
  rw [List.append_assoc, List.cons_append, cput_s pre (ho := rfl), Option.bind_some]
  rw [cnar_s _ _ _ _ _ _ _ (by decide) (by decide) (by decide), Option.bind_some]
  dsimp only
  rw [List.append_assoc, List.cons_append, cput_s pre (ho := rfl), Option.bind_some]
  · simp [zob, uB, rB, List.replicate]
  all_goals simp
/-- the units behind: a row of them, each noted in the array at place a -/
def uR (n : Nat) : Nat → List zCl
  | 0 => []
  | j + 1 => uR n j ++ uB (n + 9 * j)
theorem uR_len (n : Nat) : ∀ j, (uR n j).length = 9 * j
  | 0 => rfl
  | j + 1 => by rw [uR, List.length_append, uR_len n j]; simp [uB, rB]; omega
def refJ (N n j : Nat) : List (Option Nat) := (List.range N).map (fun i => if i < j then some (n + 9 * i) else none)
theorem refJ_len (N n j : Nat) : (refJ N n j).length = N := by simp [refJ]
theorem refJ_0 (N n : Nat) : refJ N n 0 = List.replicate N none := by
  apply List.ext_getElem?
  intro i
  simp [refJ, List.getElem?_replicate]
  by_cases h : i < N <;> simp [h]
theorem refJ_s (N n j : Nat) : (refJ N n j).set j (some (n + 9 * j)) = refJ N n (j + 1) := by
  apply List.ext_getElem?
  intro i
  by_cases h : i < N
  · by_cases e : i = j
    · subst e
      rw [List.getElem?_set_self (by rw [refJ_len]; exact h)]
      simp [refJ, h]
    · rw [List.getElem?_set_ne (Ne.symm e)]
      simp only [refJ, List.getElem?_map, List.getElem?_range h, Option.map_some]
      congr 1
      by_cases h2 : i < j
      · rw [if_pos h2, if_pos (by omega)]
      · rw [if_neg h2, if_neg (by omega)]
  · rw [List.getElem?_eq_none (by rw [List.length_set, refJ_len]; omega), List.getElem?_eq_none (by rw [refJ_len]; omega)]
theorem cast_s (p1 p2 p3 : List zCl) (q : Nat × Nat) (t ci n o v nv : Nat) (refs rv : List (Option Nat)) (j : Int32) (ho : o = p1.length) (hv : v = p1.length + 1 + p2.length) (hr : refs.length = n) (hj : zin j n = true) : cast_ (p1 ++ (20 + t, (n, refs)) :: (p2 ++ (ci, (nv, rv)) :: p3), q) o t ci v j = some (p1 ++ (20 + t, (n, refs.set (zn j) (some v))) :: (p2 ++ (ci, (nv, rv)) :: p3), q) := by
  subst ho
  have e : (p1 ++ (20 + t, (n, refs)) :: (p2 ++ (ci, (nv, rv)) :: p3))[v]? = some (ci, (nv, rv)) := by
    rw [hv, List.getElem?_append_right (by omega), show p1.length + 1 + p2.length - p1.length = p2.length + 1 by omega, List.getElem?_cons_succ, List.getElem?_append_right (by omega)]
    simp
  unfold cast_
  dsimp only
  rw [e]
  simp [zob, hr, hj]
theorem uB_cons (n : Nat) : ∃ l, uB n = (7, (9, [none, none, none, some (n + 1), some (n + 3), some (n + 5), some (n + 6), some (n + 7), some (n + 8)])) :: l := ⟨_, rfl⟩
/-- one more unit: made, laid out, noted -/
theorem unit_step (p1 p2 : List zCl) (n : Nat) (refs : List (Option Nat)) (q : Nat × Nat) (j : Int32) (hr : refs.length = n) (hj : zin j n = true) (V : Nat) (hV : V = p1.length + 1 + p2.length) :
    kX7_init V (p1 ++ (24, (n, refs)) :: p2 ++ [bN 7 9]) = some (p1 ++ (24, (n, refs)) :: (p2 ++ uB V), (8, 250)) ∧ cast_ (p1 ++ (24, (n, refs)) :: (p2 ++ uB V), q) p1.length 4 7 V j = some (p1 ++ (24, (n, refs.set (zn j) (some V))) :: (p2 ++ uB V), q) := by
  have hl : (p1 ++ (24, (n, refs)) :: p2).length = V := by simp [hV]; omega
  refine ⟨?_, ?_⟩
  · have h := kU (p1 ++ (24, (n, refs)) :: p2)
    rw [hl] at h
    rw [h, List.append_assoc, List.cons_append]
  · obtain ⟨l, e⟩ := uB_cons V
    rw [e]
    exact cast_s p1 p2 l q 4 7 n _ V 9 refs _ j rfl hV hr hj
def wB (n : Nat) : List zCl := (8, (2, [some (n + 1), none])) :: (24, (12, refJ 12 (n + 2) 12)) :: uR (n + 2) 12
def hB (n : Nat) : List zCl := (1, (4, [some (n + 1), some (n + 2), none, none])) :: (24, (10, refJ 10 (n + 3) 10)) :: (20, (10, [])) :: uR (n + 3) 10
theorem zin_nI {j n : Nat} (h : j < n) (hn : n ≤ 100) : zin (Int32.ofNat j) n = true ∧ zn (Int32.ofNat j) = j := by
  have e : (Int32.ofNat j).toNatClampNeg = j := by
    show (Int32.ofNat j).toInt.toNat = j
    rw [Int32.toInt_ofNat_of_lt (by omega)]
    simp
  refine ⟨?_, e⟩
  unfold zin
  rw [e]
  have : ¬ Int32.ofNat j < 0 := by
    rw [Int32.lt_iff_toInt_lt, Int32.toInt_ofNat_of_lt (by omega)]
    simp
  simp [this]; omega
theorem ofN_s (j : Nat) : Int32.ofNat j + 1 = Int32.ofNat (j + 1) := by
  show Int32.ofNat j + Int32.ofNat 1 = _
  rw [← Int32.ofNat_add]
theorem ofN_le {j n : Nat} (hj : j ≤ 100) (hn : n ≤ 100) : Int32.ofNat n ≤ Int32.ofNat j ↔ n ≤ j := by
  rw [Int32.le_iff_toInt_le, Int32.toInt_ofNat_of_lt (by omega), Int32.toInt_ofNat_of_lt (by omega)]
  omega
/-- World's loop -/
theorem wLoop (pre : List zCl) (o : Nat) (ho : o = pre.length) : ∀ (k j F : Nat), j + k = 12 → k < F → zloop (kX8_init_L15 o) F (Int32.ofNat j, (pre ++ (8, (2, [some (o + 1), none])) :: (24, (12, refJ 12 (o + 2) j)) :: uR (o + 2) j, (1 + 9 * j, 12 + 259 * j))) = some (.inl (pre ++ wB o, (109, 3120)))
  | 0, j, F, hj, hF => by
    obtain ⟨F, rfl⟩ : ∃ f, F = f + 1 := ⟨F - 1, by omega⟩
    have e : j = 12 := by omega
    subst e
    rw [zloop]
    unfold kX8_init_L15
    dsimp only
    rw [if_pos (by decide)]
    rfl
  | k + 1, j, F, hj, hF => by
    obtain ⟨F, rfl⟩ : ∃ f, F = f + 1 := ⟨F - 1, by omega⟩
    have ih := wLoop pre o ho k (j + 1) F (by omega) (by omega)
    obtain ⟨z1, z2⟩ := zin_nI (j := j) (n := 12) (by omega) (by decide)
    rw [zloop]
    unfold kX8_init_L15
    dsimp only
    rw [if_neg (by
      intro h
      have := (ofN_le (j := j) (n := 12) (by omega) (by decide)).mp h
      omega)]
    have eg : cget (pre ++ (8, (2, [some (o + 1), none])) :: (24, (12, refJ 12 (o + 2) j)) :: uR (o + 2) j, (1 + 9 * j, 12 + 259 * j)) o 8 2 0 = some (o + 1) := by
      rw [ho]; simp [cget, zob]
    rw [eg, Option.bind_some, cnew_s _ _ _ _ _ _ _ (by omega) (by omega), Option.bind_some]
    have hlen : (pre ++ (8, (2, [some (o + 1), none])) :: (24, (12, refJ 12 (o + 2) j)) :: uR (o + 2) j).length = o + 2 + 9 * j := by
      simp [uR_len, ho]; omega
    rw [hlen]
    obtain ⟨s1, s2⟩ := unit_step (pre ++ [(8, (2, [some (o + 1), none]))]) (uR (o + 2) j) 12 (refJ 12 (o + 2) j) (1 + 9 * j + 1 + 8, 12 + 259 * j + 9 + 250) (Int32.ofNat j) (refJ_len _ _ _) z1 (o + 2 + 9 * j) (by simp [uR_len, ho])
    have ea : ∀ x : List zCl, pre ++ [((8, (2, [some (o + 1), none])) : zCl)] ++ x = pre ++ (8, (2, [some (o + 1), none])) :: x := fun x => by simp
    rw [List.append_assoc, ea] at s1
    rw [ea] at s1 s2
    rw [ea] at s2
    rw [show (pre ++ [((8, (2, [some (o + 1), none])) : zCl)]).length = o + 1 by simp [ho]] at s2
    rw [z2, refJ_s] at s2
    dsimp only
    rw [List.append_assoc, List.cons_append, List.cons_append, ← List.cons_append, s1]
    rw [Option.bind_some, cadd_s _ _ _ _ _ _ _ _ (by omega) (by omega), Option.bind_some]
    dsimp only
    rw [s2, Option.bind_some]
    show zloop (kX8_init_L15 o) F (Int32.ofNat j + 1, _) = _
    rw [ofN_s, show 1 + 9 * j + 1 + 8 = 1 + 9 * (j + 1) by omega, show 12 + 259 * j + 9 + 250 = 12 + 259 * (j + 1) by omega]
    exact ih
theorem kW (pre : List zCl) : kX8_init pre.length (pre ++ [bN 8 2]) = some (pre ++ wB pre.length, (109, 3120)) := by
  unfold kX8_init kX8_init_b
  rw [cnar_r _ _ _ _ _ _ _ (by decide) (by decide) (by decide), Option.bind_some]
  rw [List.append_assoc]
  show (cput (pre ++ (8, (2, List.replicate 2 none)) :: [(20 + 4, (12, List.replicate 12 none))], _) _ _ _ _ _).bind _ = _
  rw [cput_s pre (ho := rfl), Option.bind_some]
  · have h := wLoop pre pre.length rfl 12 0 20 (by decide) (by decide)
    rw [refJ_0] at h
    rw [show (pre ++ [bN 8 2]).length = pre.length + 1 by simp]
    show (zloop (kX8_init_L15 pre.length) 20 (Int32.ofNat 0, (pre ++ (8, (2, [some (pre.length + 1), none])) :: (24, (12, List.replicate 12 none)) :: uR (pre.length + 2) 0, (1 + 9 * 0, 12 + 259 * 0)))).bind _ = _
    rw [h]
    rfl
  all_goals rfl
/-- History's loop -/
theorem hLoop (pre : List zCl) (o : Nat) (ho : o = pre.length) : ∀ (k j F : Nat), j + k = 10 → k < F → zloop (kX1_init_L23 o) F (Int32.ofNat j, (pre ++ (1, (4, [some (o + 1), some (o + 2), none, none])) :: (24, (10, refJ 10 (o + 3) j)) :: (20, (10, [])) :: uR (o + 3) j, (2 + 9 * j, 20 + 259 * j))) = some (.inl (pre ++ hB o, (92, 2610)))
  | 0, j, F, hj, hF => by
    obtain ⟨F, rfl⟩ : ∃ f, F = f + 1 := ⟨F - 1, by omega⟩
    have e : j = 10 := by omega
    subst e
    rw [zloop]
    unfold kX1_init_L23
    dsimp only
    rw [if_pos (by decide)]
    rfl
  | k + 1, j, F, hj, hF => by
    obtain ⟨F, rfl⟩ : ∃ f, F = f + 1 := ⟨F - 1, by omega⟩
    have ih := hLoop pre o ho k (j + 1) F (by omega) (by omega)
    obtain ⟨z1, z2⟩ := zin_nI (j := j) (n := 10) (by omega) (by decide)
    rw [zloop]
    unfold kX1_init_L23
    dsimp only
    rw [if_neg (by
      intro h
      have := (ofN_le (j := j) (n := 10) (by omega) (by decide)).mp h
      omega)]
    have eg : cget (pre ++ (1, (4, [some (o + 1), some (o + 2), none, none])) :: (24, (10, refJ 10 (o + 3) j)) :: (20, (10, [])) :: uR (o + 3) j, (2 + 9 * j, 20 + 259 * j)) o 1 4 0 = some (o + 1) := by
      rw [ho]; simp [cget, zob]
    rw [eg, Option.bind_some, cnew_s _ _ _ _ _ _ _ (by omega) (by omega), Option.bind_some]
    have hlen : (pre ++ (1, (4, [some (o + 1), some (o + 2), none, none])) :: (24, (10, refJ 10 (o + 3) j)) :: (20, (10, [])) :: uR (o + 3) j).length = o + 3 + 9 * j := by
      simp [uR_len, ho]; omega
    rw [hlen]
    obtain ⟨s1, s2⟩ := unit_step (pre ++ [(1, (4, [some (o + 1), some (o + 2), none, none]))]) ((20, (10, [])) :: uR (o + 3) j) 10 (refJ 10 (o + 3) j) (2 + 9 * j + 1 + 8, 20 + 259 * j + 9 + 250) (Int32.ofNat j) (refJ_len _ _ _) z1 (o + 3 + 9 * j) (by simp [uR_len, ho]; omega)
    have ea : ∀ x : List zCl, pre ++ [((1, (4, [some (o + 1), some (o + 2), none, none])) : zCl)] ++ x = pre ++ (1, (4, [some (o + 1), some (o + 2), none, none])) :: x := fun x => by simp
    rw [List.append_assoc, ea] at s1
    rw [ea] at s1 s2
    rw [ea] at s2
    rw [show (pre ++ [((1, (4, [some (o + 1), some (o + 2), none, none])) : zCl)]).length = o + 1 by simp [ho]] at s2
    rw [z2, refJ_s] at s2
    dsimp only
    rw [List.append_assoc, List.cons_append, List.cons_append, ← List.cons_append, s1]
    rw [Option.bind_some, cadd_s _ _ _ _ _ _ _ _ (by omega) (by omega), Option.bind_some]
    dsimp only
    rw [s2, Option.bind_some]
    show zloop (kX1_init_L23 o) F (Int32.ofNat j + 1, _) = _
    rw [ofN_s, show 2 + 9 * j + 1 + 8 = 2 + 9 * (j + 1) by omega, show 20 + 259 * j + 9 + 250 = 20 + 259 * (j + 1) by omega]
    exact ih
theorem kH (pre : List zCl) : kX1_init pre.length (pre ++ [bN 1 4]) = some (pre ++ hB pre.length, (92, 2610)) := by
  unfold kX1_init kX1_init_b
  rw [cnar_r _ _ _ _ _ _ _ (by decide) (by decide) (by decide), Option.bind_some]
  rw [List.append_assoc]
  show (cput (pre ++ (1, (4, List.replicate 4 none)) :: [(20 + 4, (10, List.replicate 10 none))], _) _ _ _ _ _).bind _ = _
  rw [cput_s pre (ho := rfl), Option.bind_some]
  · rw [cnar_s _ _ _ _ _ _ _ (by decide) (by decide) (by decide), Option.bind_some]
    dsimp only
    rw [List.append_assoc, List.cons_append, cput_s pre (ho := rfl), Option.bind_some]
    · have h := hLoop pre pre.length rfl 10 0 20 (by decide) (by decide)
      rw [refJ_0] at h
      rw [show (pre ++ [bN 1 4]).length = pre.length + 1 by simp, show (pre ++ (1, (4, (List.replicate 4 none).set 0 (some (pre.length + 1)))) :: [((20 + 4, (10, List.replicate 10 none)) : zCl)]).length = pre.length + 2 by simp]
      show (zloop (kX1_init_L23 pre.length) 20 (Int32.ofNat 0, (pre ++ (1, (4, [some (pre.length + 1), some (pre.length + 2), none, none])) :: (24, (10, List.replicate 10 none)) :: (20, (10, [])) :: uR (pre.length + 3) 0, (2 + 9 * 0, 20 + 259 * 0)))).bind _ = _
      rw [h]
      rfl
    all_goals simp
  all_goals rfl
def fB (n : Nat) : List zCl := [(0, (3, [some (n + 1), some (n + 2), some (n + 3)])), (20, (312, [])), (20, (312, [])), (20, (312, []))]
theorem kF (pre : List zCl) : kX0_init pre.length (pre ++ [bN 0 3]) = some (pre ++ fB pre.length, (3, 936)) := by
  unfold kX0_init kX0_init_b
  rw [cnar_s _ _ _ _ _ _ _ (by decide) (by decide) (by decide), Option.bind_some]
  rw [List.append_assoc]
  show (cput (pre ++ (0, (3, List.replicate 3 none)) :: [(20 + 0, (312, []))], _) _ _ _ _ _).bind _ = _
  rw [cput_s pre (ho := rfl), Option.bind_some]
  · rw [cnar_s _ _ _ _ _ _ _ (by decide) (by decide) (by decide), Option.bind_some]
    dsimp only
    rw [List.append_assoc, List.cons_append, cput_s pre (ho := rfl), Option.bind_some]
    · rw [cnar_s _ _ _ _ _ _ _ (by decide) (by decide) (by decide), Option.bind_some]
      dsimp only
      rw [List.append_assoc, List.cons_append, cput_s pre (ho := rfl), Option.bind_some]
      · simp [zob, fB, List.replicate]
      all_goals simp
    all_goals simp
  all_goals rfl
def oB (n : Nat) : List zCl := [(3, (3, [some (n + 1), some (n + 2), none])), (20, (12, [])), (20, (4096, []))]
theorem kO (pre : List zCl) : kX3_init pre.length (pre ++ [bN 3 3]) = some (pre ++ oB pre.length, (2, 4108)) := by
  unfold kX3_init kX3_init_b
  rw [cnar_s _ _ _ _ _ _ _ (by decide) (by decide) (by decide), Option.bind_some]
  rw [List.append_assoc]
  show (cput (pre ++ (3, (3, List.replicate 3 none)) :: [(20 + 0, (12, []))], _) _ _ _ _ _).bind _ = _
  rw [cput_s pre (ho := rfl), Option.bind_some]
  · rw [cnar_s _ _ _ _ _ _ _ (by decide) (by decide) (by decide), Option.bind_some]
    dsimp only
    rw [List.append_assoc, List.cons_append, cput_s pre (ho := rfl), Option.bind_some]
    · simp [zob, oB, List.replicate]
    all_goals simp
  all_goals rfl
theorem kRd (v0 : Nat) (cs : List zCl) : kX4_init v0 cs = some (cs, (0, 0)) := rfl
theorem kSd (v0 : Nat) (cs : List zCl) : kX6_init v0 cs = some (cs, (0, 0)) := rfl
def mB (n k l : Nat) : List zCl := (26, (k, (List.range k).map (fun i => some (n + 1 + i)))) :: List.replicate k (20, (l, []))
theorem mB_len (n k l : Nat) : (mB n k l).length = k + 1 := by simp [mB]
theorem cmul_s (cs : List zCl) (c s mc ms n k : Nat) (h1 : c + (1 + n) ≤ mc) (h2 : s + (n + n * k) ≤ ms) : cmul (cs, (c, s)) mc ms n k = some (cs ++ mB cs.length n k, (c + 1 + n, s + n + n * k)) := by
  simp [cmul, zob, h1, h2, mB]
def lB (n : Nat) : List zCl := (2, (10, [some (n + 1), some (n + 14), some (n + 15), some (n + 28), some (n + 29), some (n + 30), some (n + 36), some (n + 37), some (n + 38), none])) :: (mB (n + 1) 12 12 ++ ((20, (12, [])) :: (mB (n + 15) 12 12 ++ ((20, (12, [])) :: (20, (12, [])) :: (mB (n + 30) 5 12 ++ [(20, (5, [])), (20, (5, [])), (20, (12, []))])))))
theorem kL (pre : List zCl) : kX2_init pre.length (pre ++ [bN 2 10]) = some (pre ++ lB pre.length, (38, 435)) := by
  unfold kX2_init kX2_init_b
  rw [cmul_s _ _ _ _ _ _ _ (by decide) (by decide), Option.bind_some]
  rw [List.append_assoc]
  show (cput (pre ++ (2, (10, List.replicate 10 none)) :: mB _ 12 12, _) _ _ _ _ _).bind _ = _
  rw [cput_s pre (ho := rfl), Option.bind_some]
  rw [cnar_s _ _ _ _ _ _ _ (by decide) (by decide) (by decide), Option.bind_some]
  dsimp only
  rw [List.append_assoc, List.cons_append, cput_s pre (ho := rfl), Option.bind_some]
  rw [cmul_s _ _ _ _ _ _ _ (by decide) (by decide), Option.bind_some]
  dsimp only
  rw [List.append_assoc, List.cons_append, cput_s pre (ho := rfl), Option.bind_some]
  rw [cnar_s _ _ _ _ _ _ _ (by decide) (by decide) (by decide), Option.bind_some]
  dsimp only
  rw [List.append_assoc, List.cons_append, cput_s pre (ho := rfl), Option.bind_some]
  rw [cnar_s _ _ _ _ _ _ _ (by decide) (by decide) (by decide), Option.bind_some]
  dsimp only
  rw [List.append_assoc, List.cons_append, cput_s pre (ho := rfl), Option.bind_some]
  rw [cmul_s _ _ _ _ _ _ _ (by decide) (by decide), Option.bind_some]
  dsimp only
  rw [List.append_assoc, List.cons_append, cput_s pre (ho := rfl), Option.bind_some]
  rw [cnar_s _ _ _ _ _ _ _ (by decide) (by decide) (by decide), Option.bind_some]
  dsimp only
  rw [List.append_assoc, List.cons_append, cput_s pre (ho := rfl), Option.bind_some]
  rw [cnar_s _ _ _ _ _ _ _ (by decide) (by decide) (by decide), Option.bind_some]
  dsimp only
  rw [List.append_assoc, List.cons_append, cput_s pre (ho := rfl), Option.bind_some]
  rw [cnar_s _ _ _ _ _ _ _ (by decide) (by decide) (by decide), Option.bind_some]
  dsimp only
  rw [List.append_assoc, List.cons_append, cput_s pre (ho := rfl), Option.bind_some]
  · simp [zob, lB, mB_len, List.replicate, Nat.add_assoc]
  all_goals simp
theorem cput0 (post : List zCl) (q : Nat × Nat) (ci N k v : Nat) (refs : List (Option Nat)) (hr : refs.length = N) : cput ((ci, (N, refs)) :: post, q) 0 ci N k v = some ((ci, (N, refs.set k (some v))) :: post, q) := cput_s [] post q ci N k v refs 0 rfl hr
