/-! ### a condition goes on -/
section S3L
variable {src : Nat → Int} {e : Nat}
theorem adv_pat {s : PS} {j : Option Nat} : adv (pat s j) = pat (adv s) j := by cases j <;> rfl
theorem pieD_eq {d : Nat} {s : PS} (hd : d ≤ 8) : pieD src e d s = pieG src e (pieF src e (8 - d)) (fun d1 s1 => orG src e (parG src e (pieF src e (8 - d) d1)) s1) d s := by
  unfold pieD
  rw [show 9 - d = (8 - d) + 1 by omega]
  rfl
theorem pieL_eq {d : Nat} (hd : d < 8) : pieF src e (8 - d) (d + 1) = pieD src e (d + 1) := by
  funext s
  unfold pieD
  rw [show 9 - (d + 1) = 8 - d by omega]
theorem pieD_not {d k : Nat} {S : List (Int × Nat)} {s : PS} (hd : d < 8) (h : rdS src e s.1 = 33) : bnd (pieD src e d s) (conQ src e d none none S) = bnd (pieD src e (d + 1) (adv s)) (conQ src e (d + 1) none none ((10, k) :: S)) := by
  rw [pieD_eq (by omega)]
  unfold pieG dep
  rw [if_pos h, if_neg (by omega), pieL_eq hd, bnd_as]
  congr 1
theorem pieD_par {d k : Nat} {S : List (Int × Nat)} {s : PS} (hd : d < 8) (h : rdS src e s.1 = 40) : bnd (pieD src e d s) (conQ src e d none none S) = bnd (pieD src e (d + 1) (adv s)) (conQ src e (d + 1) none none ((13, k) :: S)) := by
  rw [pieD_eq (by omega)]
  unfold pieG dep
  rw [if_neg (by rw [h]; decide), if_pos h, if_neg (by omega)]
  show bnd (bnd (orG src e (parG src e (pieF src e (8 - d) (d + 1))) (adv s)) (tak src e 41)) _ = _
  rw [pieL_eq hd]
  unfold orG
  rw [bnd_as, bnd_as]
  conv => lhs; unfold parG
  rw [bnd_as]
  congr 1
theorem pieD_x {d : Nat} {s : PS} (hd : d = 8) (h : rdS src e s.1 = 33 ∨ rdS src e s.1 = 40) : pieD src e d s = .error (5, s.1) := by
  subst hd
  rw [pieD_eq (by omega)]
  unfold pieG dep
  rcases h with h | h
  · rw [if_pos h, if_pos (Nat.le_refl _)]
  · rw [if_neg (by rw [h]; decide), if_pos h, if_pos (Nat.le_refl _)]
theorem pieD_c {d : Nat} {s : PS} (hd : d ≤ 8) (h1 : rdS src e s.1 ≠ 33) (h2 : rdS src e s.1 ≠ 40) : pieD src e d s = cmpF src e d s := by
  rw [pieD_eq hd]
  unfold pieG
  rw [if_neg h1, if_neg h2]
theorem conQ_not {d k : Nat} {S : List (Int × Nat)} {s : PS} {ja jo : Option Nat} : conQ src e d ja jo ((10, k) :: S) s = conQ src e (d - 1) none none S (emt s 10485760) := by
  conv => lhs; unfold conQ
  rw [if_pos rfl]
theorem conQ_11 {d k : Nat} {S : List (Int × Nat)} {s : PS} {ja jo : Option Nat} : conQ src e d ja jo ((11, k) :: S) s = conQ src e d (some k) jo S s := by
  conv => lhs; unfold conQ
  rw [if_neg (by show ¬ ((11 : Int) = 10); decide), if_pos rfl]
theorem conQ_12 {d k : Nat} {S : List (Int × Nat)} {s : PS} {ja jo : Option Nat} : conQ src e d ja jo ((12, k) :: S) s = conQ src e d ja (some k) S s := by
  conv => lhs; unfold conQ
  rw [if_neg (by show ¬ ((12 : Int) = 10); decide), if_neg (by show ¬ ((12 : Int) = 11); decide), if_pos rfl]
theorem conQ_13 {d k : Nat} {S : List (Int × Nat)} {s : PS} {ja jo : Option Nat} : conQ src e d ja jo ((13, k) :: S) s = bnd (andW src e d ja s) (fun s1 => bnd (orW src e d jo s1) (fun s2 => bnd (tak src e 41 s2) (conQ src e (d - 1) none none S))) := by
  conv => lhs; unfold conQ
  rw [if_neg (by show ¬ ((13 : Int) = 10); decide), if_neg (by show ¬ ((13 : Int) = 11); decide), if_neg (by show ¬ ((13 : Int) = 12); decide)]
theorem andW_no {d : Nat} {j : Option Nat} {s : PS} (h200 : e ≤ 200) (h : rdS src e s.1 ≠ 38) : andW src e d j s = .ok (pat s j) := by
  unfold andW
  rw [andL_step (pieD_pro d) h200 j s, if_neg h]
theorem orW_no {d : Nat} {j : Option Nat} {s : PS} (h200 : e ≤ 200) (h : rdS src e s.1 ≠ 124) : orW src e d j s = .ok (pat s j) := by
  unfold orW
  rw [orL_step (parG_pro (pieD_pro d)) h200 j s, if_neg h]
theorem conQ_and (h200 : e ≤ 200) {d k : Nat} {S : List (Int × Nat)} {s : PS} {ja jo : Option Nat} (h : rdS src e s.1 = 38) : conQ src e d ja jo ((13, k) :: S) s = bnd (pieD src e d (emt (pat (adv s) ja) 11534336)) (conQ src e d (some s.2.1) jo ((13, k) :: S)) := by
  rw [conQ_13]
  have h1 : andW src e d ja s = bnd (pieD src e d (emt (pat (adv s) ja) 11534336)) (fun s2 => andW src e d (some s.2.1) s2) := by
    unfold andW
    rw [andL_step (pieD_pro d) h200 ja s, if_pos h]
  rw [h1, bnd_as]
  congr 1
theorem conQ_or (h200 : e ≤ 200) {d k : Nat} {S : List (Int × Nat)} {s : PS} {ja jo : Option Nat} (h : rdS src e s.1 = 124) : conQ src e d ja jo ((13, k) :: S) s = bnd (pieD src e d (emt (pat (adv (pat s ja)) jo) 12582912)) (conQ src e d none (some s.2.1) ((13, k) :: S)) := by
  rw [conQ_13, andW_no h200 (by rw [h]; decide), bnd_ok]
  have hp : rdS src e (pat s ja).1 = 124 := by rw [pat_1]; exact h
  have h1 : orW src e d jo (pat s ja) = bnd (pieD src e d (emt (pat (adv (pat s ja)) jo) 12582912)) (fun s2 => bnd (andW src e d none s2) (fun s3 => orW src e d (some s.2.1) s3)) := by
    unfold orW
    rw [orL_step (parG_pro (pieD_pro d)) h200 jo (pat s ja), if_pos hp]
    unfold parG
    rw [bnd_as, pat_n]
    rfl
  rw [h1, bnd_as]
  congr 1 <;> (funext s2; rw [conQ_13, bnd_as])
theorem conQ_clo (h200 : e ≤ 200) {d k : Nat} {S : List (Int × Nat)} {s : PS} {ja jo : Option Nat} (h : rdS src e s.1 = 41) : conQ src e d ja jo ((13, k) :: S) s = conQ src e (d - 1) none none S (adv (pat (pat s ja) jo)) := by
  rw [conQ_13, andW_no h200 (by rw [h]; decide), bnd_ok, orW_no h200 (by rw [pat_1, h]; decide), bnd_ok]
  unfold tak
  rw [if_pos (by rw [pat_1, pat_1]; exact h), bnd_ok]
theorem conQ_err (h200 : e ≤ 200) {d k : Nat} {S : List (Int × Nat)} {s : PS} {ja jo : Option Nat} (h1 : rdS src e s.1 ≠ 38) (h2 : rdS src e s.1 ≠ 124) (h3 : rdS src e s.1 ≠ 41) : conQ src e d ja jo ((13, k) :: S) s = .error (1, s.1) := by
  rw [conQ_13, andW_no h200 h1, bnd_ok, orW_no h200 (by rw [pat_1]; exact h2), bnd_ok]
  unfold tak
  rw [if_neg (by rw [pat_1, pat_1]; exact h3), bnd_er, pat_1, pat_1]
/-- a condition begins -/
theorem conF_beg {k : Nat} {s : PS} (h : rdS src e s.1 = 40) : conF src e s = bnd (pieD src e 1 (adv s)) (conQ src e 1 none none [(13, k)]) := by
  unfold conF
  rw [if_pos h]
  unfold parsF orG parG
  rw [bnd_as, bnd_as]
  show bnd (pieD src e 1 (adv s)) _ = _
  congr 1
  funext s1
  rw [conQ_13]
  show bnd (andW src e 1 none s1) _ = _
  congr 1
  funext s2
  show bnd (orW src e 1 none s2) _ = _
  congr 1
  funext s3
  cases tak src e 41 s3 <;> rfl
end S3L
