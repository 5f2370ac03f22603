/-! THE LAW'S WALK (wip/whole/gena2.py) -/
set_option maxRecDepth 100000 in
theorem lr_head {d : Nat} {i : Int} {x m : zM} {Q : Int → zM → zM → Prop} (h : (zIn (m 2000 (-1 : Int) - (4 : Int)) ∧ ((m 2000 (-1 : Int) - (4 : Int) < i → (((1 : Int) = 0 ∨ (1 : Int) = 1) ∧ Q 1 x m)) ∧ (i ≤ m 2000 (-1 : Int) - (4 : Int) → ((0 ≤ i ∧ i < m 2000 (-1 : Int)) ∧ ∀ w : Int, zIn w → w = m 2000 i → (((zand w (63 : Int)) < (0 : Int) ∨ (44 : Int) < (zand w (63 : Int)) → WP d 281 1525 [(0, zr 2000), (1, zr 0), (2, zr 386), (3, zi i)] [] 403 [] x m 403 [] Q) ∧ (((zand w (63 : Int)) = (0 : Int) → WP d 281 228 [(0, zr 2000), (1, zr 0), (2, zr 386), (3, zi i)] [] 403 [] x m 403 [] Q) ∧ (((zand w (63 : Int)) = ((0 : Int) + 1) → WP d 281 261 [(0, zr 2000), (1, zr 0), (2, zr 386), (3, zi i)] [] 403 [] x m 403 [] Q) ∧ (((zand w (63 : Int)) = (((0 : Int) + 1) + 1) → WP d 281 294 [(0, zr 2000), (1, zr 0), (2, zr 386), (3, zi i)] [] 403 [] x m 403 [] Q) ∧ (((zand w (63 : Int)) = ((((0 : Int) + 1) + 1) + 1) → WP d 281 327 [(0, zr 2000), (1, zr 0), (2, zr 386), (3, zi i)] [] 403 [] x m 403 [] Q) ∧ (((zand w (63 : Int)) = (((((0 : Int) + 1) + 1) + 1) + 1) → WP d 281 360 [(0, zr 2000), (1, zr 0), (2, zr 386), (3, zi i)] [] 403 [] x m 403 [] Q) ∧ (((zand w (63 : Int)) = ((((((0 : Int) + 1) + 1) + 1) + 1) + 1) → WP d 281 403 [(0, zr 2000), (1, zr 0), (2, zr 386), (3, zi i)] [] 403 [] x m 403 [] Q) ∧ (((zand w (63 : Int)) = (((((((0 : Int) + 1) + 1) + 1) + 1) + 1) + 1) → WP d 281 446 [(0, zr 2000), (1, zr 0), (2, zr 386), (3, zi i)] [] 403 [] x m 403 [] Q) ∧ (((zand w (63 : Int)) = ((((((((0 : Int) + 1) + 1) + 1) + 1) + 1) + 1) + 1) → WP d 281 479 [(0, zr 2000), (1, zr 0), (2, zr 386), (3, zi i)] [] 403 [] x m 403 [] Q) ∧ (((zand w (63 : Int)) = (((((((((0 : Int) + 1) + 1) + 1) + 1) + 1) + 1) + 1) + 1) → WP d 281 522 [(0, zr 2000), (1, zr 0), (2, zr 386), (3, zi i)] [] 403 [] x m 403 [] Q) ∧ (((zand w (63 : Int)) = ((((((((((0 : Int) + 1) + 1) + 1) + 1) + 1) + 1) + 1) + 1) + 1) → WP d 281 565 [(0, zr 2000), (1, zr 0), (2, zr 386), (3, zi i)] [] 403 [] x m 403 [] Q) ∧ (((zand w (63 : Int)) = (((((((((((0 : Int) + 1) + 1) + 1) + 1) + 1) + 1) + 1) + 1) + 1) + 1) → WP d 281 598 [(0, zr 2000), (1, zr 0), (2, zr 386), (3, zi i)] [] 403 [] x m 403 [] Q) ∧ (((zand w (63 : Int)) = ((((((((((((0 : Int) + 1) + 1) + 1) + 1) + 1) + 1) + 1) + 1) + 1) + 1) + 1) → WP d 281 621 [(0, zr 2000), (1, zr 0), (2, zr 386), (3, zi i)] [] 403 [] x m 403 [] Q) ∧ (((zand w (63 : Int)) = (((((((((((((0 : Int) + 1) + 1) + 1) + 1) + 1) + 1) + 1) + 1) + 1) + 1) + 1) + 1) → WP d 281 654 [(0, zr 2000), (1, zr 0), (2, zr 386), (3, zi i)] [] 403 [] x m 403 [] Q) ∧ (((zand w (63 : Int)) = ((((((((((((((0 : Int) + 1) + 1) + 1) + 1) + 1) + 1) + 1) + 1) + 1) + 1) + 1) + 1) + 1) → WP d 281 687 [(0, zr 2000), (1, zr 0), (2, zr 386), (3, zi i)] [] 403 [] x m 403 [] Q) ∧ (((zand w (63 : Int)) = (((((((((((((((0 : Int) + 1) + 1) + 1) + 1) + 1) + 1) + 1) + 1) + 1) + 1) + 1) + 1) + 1) + 1) → WP d 281 720 [(0, zr 2000), (1, zr 0), (2, zr 386), (3, zi i)] [] 403 [] x m 403 [] Q) ∧ (((zand w (63 : Int)) = ((((((((((((((((0 : Int) + 1) + 1) + 1) + 1) + 1) + 1) + 1) + 1) + 1) + 1) + 1) + 1) + 1) + 1) + 1) → WP d 281 753 [(0, zr 2000), (1, zr 0), (2, zr 386), (3, zi i)] [] 403 [] x m 403 [] Q) ∧ (((zand w (63 : Int)) = (((((((((((((((((0 : Int) + 1) + 1) + 1) + 1) + 1) + 1) + 1) + 1) + 1) + 1) + 1) + 1) + 1) + 1) + 1) + 1) → WP d 281 786 [(0, zr 2000), (1, zr 0), (2, zr 386), (3, zi i)] [] 403 [] x m 403 [] Q) ∧ (((zand w (63 : Int)) = ((((((((((((((((((0 : Int) + 1) + 1) + 1) + 1) + 1) + 1) + 1) + 1) + 1) + 1) + 1) + 1) + 1) + 1) + 1) + 1) + 1) → WP d 281 819 [(0, zr 2000), (1, zr 0), (2, zr 386), (3, zi i)] [] 403 [] x m 403 [] Q) ∧ (((zand w (63 : Int)) = (((((((((((((((((((0 : Int) + 1) + 1) + 1) + 1) + 1) + 1) + 1) + 1) + 1) + 1) + 1) + 1) + 1) + 1) + 1) + 1) + 1) + 1) → WP d 281 832 [(0, zr 2000), (1, zr 0), (2, zr 386), (3, zi i)] [] 403 [] x m 403 [] Q) ∧ (((zand w (63 : Int)) = ((((((((((((((((((((0 : Int) + 1) + 1) + 1) + 1) + 1) + 1) + 1) + 1) + 1) + 1) + 1) + 1) + 1) + 1) + 1) + 1) + 1) + 1) + 1) → WP d 281 865 [(0, zr 2000), (1, zr 0), (2, zr 386), (3, zi i)] [] 403 [] x m 403 [] Q) ∧ (((zand w (63 : Int)) = (((((((((((((((((((((0 : Int) + 1) + 1) + 1) + 1) + 1) + 1) + 1) + 1) + 1) + 1) + 1) + 1) + 1) + 1) + 1) + 1) + 1) + 1) + 1) + 1) → WP d 281 898 [(0, zr 2000), (1, zr 0), (2, zr 386), (3, zi i)] [] 403 [] x m 403 [] Q) ∧ (((zand w (63 : Int)) = ((((((((((((((((((((((0 : Int) + 1) + 1) + 1) + 1) + 1) + 1) + 1) + 1) + 1) + 1) + 1) + 1) + 1) + 1) + 1) + 1) + 1) + 1) + 1) + 1) + 1) → WP d 281 931 [(0, zr 2000), (1, zr 0), (2, zr 386), (3, zi i)] [] 403 [] x m 403 [] Q) ∧ (((zand w (63 : Int)) = (((((((((((((((((((((((0 : Int) + 1) + 1) + 1) + 1) + 1) + 1) + 1) + 1) + 1) + 1) + 1) + 1) + 1) + 1) + 1) + 1) + 1) + 1) + 1) + 1) + 1) + 1) → WP d 281 954 [(0, zr 2000), (1, zr 0), (2, zr 386), (3, zi i)] [] 403 [] x m 403 [] Q) ∧ (((zand w (63 : Int)) = ((((((((((((((((((((((((0 : Int) + 1) + 1) + 1) + 1) + 1) + 1) + 1) + 1) + 1) + 1) + 1) + 1) + 1) + 1) + 1) + 1) + 1) + 1) + 1) + 1) + 1) + 1) + 1) → WP d 281 977 [(0, zr 2000), (1, zr 0), (2, zr 386), (3, zi i)] [] 403 [] x m 403 [] Q) ∧ (((zand w (63 : Int)) = (((((((((((((((((((((((((0 : Int) + 1) + 1) + 1) + 1) + 1) + 1) + 1) + 1) + 1) + 1) + 1) + 1) + 1) + 1) + 1) + 1) + 1) + 1) + 1) + 1) + 1) + 1) + 1) + 1) → WP d 281 1011 [(0, zr 2000), (1, zr 0), (2, zr 386), (3, zi i)] [] 403 [] x m 403 [] Q) ∧ (((zand w (63 : Int)) = ((((((((((((((((((((((((((0 : Int) + 1) + 1) + 1) + 1) + 1) + 1) + 1) + 1) + 1) + 1) + 1) + 1) + 1) + 1) + 1) + 1) + 1) + 1) + 1) + 1) + 1) + 1) + 1) + 1) + 1) → WP d 281 1055 [(0, zr 2000), (1, zr 0), (2, zr 386), (3, zi i)] [] 403 [] x m 403 [] Q) ∧ (((zand w (63 : Int)) = (((((((((((((((((((((((((((0 : Int) + 1) + 1) + 1) + 1) + 1) + 1) + 1) + 1) + 1) + 1) + 1) + 1) + 1) + 1) + 1) + 1) + 1) + 1) + 1) + 1) + 1) + 1) + 1) + 1) + 1) + 1) → WP d 281 1068 [(0, zr 2000), (1, zr 0), (2, zr 386), (3, zi i)] [] 403 [] x m 403 [] Q) ∧ (((zand w (63 : Int)) = ((((((((((((((((((((((((((((0 : Int) + 1) + 1) + 1) + 1) + 1) + 1) + 1) + 1) + 1) + 1) + 1) + 1) + 1) + 1) + 1) + 1) + 1) + 1) + 1) + 1) + 1) + 1) + 1) + 1) + 1) + 1) + 1) → WP d 281 1111 [(0, zr 2000), (1, zr 0), (2, zr 386), (3, zi i)] [] 403 [] x m 403 [] Q) ∧ (((zand w (63 : Int)) = (((((((((((((((((((((((((((((0 : Int) + 1) + 1) + 1) + 1) + 1) + 1) + 1) + 1) + 1) + 1) + 1) + 1) + 1) + 1) + 1) + 1) + 1) + 1) + 1) + 1) + 1) + 1) + 1) + 1) + 1) + 1) + 1) + 1) → WP d 281 1134 [(0, zr 2000), (1, zr 0), (2, zr 386), (3, zi i)] [] 403 [] x m 403 [] Q) ∧ (((zand w (63 : Int)) = ((((((((((((((((((((((((((((((0 : Int) + 1) + 1) + 1) + 1) + 1) + 1) + 1) + 1) + 1) + 1) + 1) + 1) + 1) + 1) + 1) + 1) + 1) + 1) + 1) + 1) + 1) + 1) + 1) + 1) + 1) + 1) + 1) + 1) + 1) → WP d 281 1157 [(0, zr 2000), (1, zr 0), (2, zr 386), (3, zi i)] [] 403 [] x m 403 [] Q) ∧ (((zand w (63 : Int)) = (((((((((((((((((((((((((((((((0 : Int) + 1) + 1) + 1) + 1) + 1) + 1) + 1) + 1) + 1) + 1) + 1) + 1) + 1) + 1) + 1) + 1) + 1) + 1) + 1) + 1) + 1) + 1) + 1) + 1) + 1) + 1) + 1) + 1) + 1) + 1) → WP d 281 1170 [(0, zr 2000), (1, zr 0), (2, zr 386), (3, zi i)] [] 403 [] x m 403 [] Q) ∧ (((zand w (63 : Int)) = ((((((((((((((((((((((((((((((((0 : Int) + 1) + 1) + 1) + 1) + 1) + 1) + 1) + 1) + 1) + 1) + 1) + 1) + 1) + 1) + 1) + 1) + 1) + 1) + 1) + 1) + 1) + 1) + 1) + 1) + 1) + 1) + 1) + 1) + 1) + 1) + 1) → WP d 281 1203 [(0, zr 2000), (1, zr 0), (2, zr 386), (3, zi i)] [] 403 [] x m 403 [] Q) ∧ (((zand w (63 : Int)) = (((((((((((((((((((((((((((((((((0 : Int) + 1) + 1) + 1) + 1) + 1) + 1) + 1) + 1) + 1) + 1) + 1) + 1) + 1) + 1) + 1) + 1) + 1) + 1) + 1) + 1) + 1) + 1) + 1) + 1) + 1) + 1) + 1) + 1) + 1) + 1) + 1) + 1) → WP d 281 1226 [(0, zr 2000), (1, zr 0), (2, zr 386), (3, zi i)] [] 403 [] x m 403 [] Q) ∧ (((zand w (63 : Int)) = ((((((((((((((((((((((((((((((((((0 : Int) + 1) + 1) + 1) + 1) + 1) + 1) + 1) + 1) + 1) + 1) + 1) + 1) + 1) + 1) + 1) + 1) + 1) + 1) + 1) + 1) + 1) + 1) + 1) + 1) + 1) + 1) + 1) + 1) + 1) + 1) + 1) + 1) + 1) → WP d 281 1249 [(0, zr 2000), (1, zr 0), (2, zr 386), (3, zi i)] [] 403 [] x m 403 [] Q) ∧ (((zand w (63 : Int)) = (((((((((((((((((((((((((((((((((((0 : Int) + 1) + 1) + 1) + 1) + 1) + 1) + 1) + 1) + 1) + 1) + 1) + 1) + 1) + 1) + 1) + 1) + 1) + 1) + 1) + 1) + 1) + 1) + 1) + 1) + 1) + 1) + 1) + 1) + 1) + 1) + 1) + 1) + 1) + 1) → WP d 281 1262 [(0, zr 2000), (1, zr 0), (2, zr 386), (3, zi i)] [] 403 [] x m 403 [] Q) ∧ (((zand w (63 : Int)) = ((((((((((((((((((((((((((((((((((((0 : Int) + 1) + 1) + 1) + 1) + 1) + 1) + 1) + 1) + 1) + 1) + 1) + 1) + 1) + 1) + 1) + 1) + 1) + 1) + 1) + 1) + 1) + 1) + 1) + 1) + 1) + 1) + 1) + 1) + 1) + 1) + 1) + 1) + 1) + 1) + 1) → WP d 281 1305 [(0, zr 2000), (1, zr 0), (2, zr 386), (3, zi i)] [] 403 [] x m 403 [] Q) ∧ (((zand w (63 : Int)) = (((((((((((((((((((((((((((((((((((((0 : Int) + 1) + 1) + 1) + 1) + 1) + 1) + 1) + 1) + 1) + 1) + 1) + 1) + 1) + 1) + 1) + 1) + 1) + 1) + 1) + 1) + 1) + 1) + 1) + 1) + 1) + 1) + 1) + 1) + 1) + 1) + 1) + 1) + 1) + 1) + 1) + 1) → WP d 281 1318 [(0, zr 2000), (1, zr 0), (2, zr 386), (3, zi i)] [] 403 [] x m 403 [] Q) ∧ (((zand w (63 : Int)) = ((((((((((((((((((((((((((((((((((((((0 : Int) + 1) + 1) + 1) + 1) + 1) + 1) + 1) + 1) + 1) + 1) + 1) + 1) + 1) + 1) + 1) + 1) + 1) + 1) + 1) + 1) + 1) + 1) + 1) + 1) + 1) + 1) + 1) + 1) + 1) + 1) + 1) + 1) + 1) + 1) + 1) + 1) + 1) → WP d 281 1341 [(0, zr 2000), (1, zr 0), (2, zr 386), (3, zi i)] [] 403 [] x m 403 [] Q) ∧ (((zand w (63 : Int)) = (((((((((((((((((((((((((((((((((((((((0 : Int) + 1) + 1) + 1) + 1) + 1) + 1) + 1) + 1) + 1) + 1) + 1) + 1) + 1) + 1) + 1) + 1) + 1) + 1) + 1) + 1) + 1) + 1) + 1) + 1) + 1) + 1) + 1) + 1) + 1) + 1) + 1) + 1) + 1) + 1) + 1) + 1) + 1) + 1) → WP d 281 1354 [(0, zr 2000), (1, zr 0), (2, zr 386), (3, zi i)] [] 403 [] x m 403 [] Q) ∧ (((zand w (63 : Int)) = ((((((((((((((((((((((((((((((((((((((((0 : Int) + 1) + 1) + 1) + 1) + 1) + 1) + 1) + 1) + 1) + 1) + 1) + 1) + 1) + 1) + 1) + 1) + 1) + 1) + 1) + 1) + 1) + 1) + 1) + 1) + 1) + 1) + 1) + 1) + 1) + 1) + 1) + 1) + 1) + 1) + 1) + 1) + 1) + 1) + 1) → WP d 281 1367 [(0, zr 2000), (1, zr 0), (2, zr 386), (3, zi i)] [] 403 [] x m 403 [] Q) ∧ (((zand w (63 : Int)) = (((((((((((((((((((((((((((((((((((((((((0 : Int) + 1) + 1) + 1) + 1) + 1) + 1) + 1) + 1) + 1) + 1) + 1) + 1) + 1) + 1) + 1) + 1) + 1) + 1) + 1) + 1) + 1) + 1) + 1) + 1) + 1) + 1) + 1) + 1) + 1) + 1) + 1) + 1) + 1) + 1) + 1) + 1) + 1) + 1) + 1) + 1) → WP d 281 1390 [(0, zr 2000), (1, zr 0), (2, zr 386), (3, zi i)] [] 403 [] x m 403 [] Q) ∧ (((zand w (63 : Int)) = ((((((((((((((((((((((((((((((((((((((((((0 : Int) + 1) + 1) + 1) + 1) + 1) + 1) + 1) + 1) + 1) + 1) + 1) + 1) + 1) + 1) + 1) + 1) + 1) + 1) + 1) + 1) + 1) + 1) + 1) + 1) + 1) + 1) + 1) + 1) + 1) + 1) + 1) + 1) + 1) + 1) + 1) + 1) + 1) + 1) + 1) + 1) + 1) → WP d 281 1423 [(0, zr 2000), (1, zr 0), (2, zr 386), (3, zi i)] [] 403 [] x m 403 [] Q) ∧ (((zand w (63 : Int)) = (((((((((((((((((((((((((((((((((((((((((((0 : Int) + 1) + 1) + 1) + 1) + 1) + 1) + 1) + 1) + 1) + 1) + 1) + 1) + 1) + 1) + 1) + 1) + 1) + 1) + 1) + 1) + 1) + 1) + 1) + 1) + 1) + 1) + 1) + 1) + 1) + 1) + 1) + 1) + 1) + 1) + 1) + 1) + 1) + 1) + 1) + 1) + 1) + 1) → WP d 281 1436 [(0, zr 2000), (1, zr 0), (2, zr 386), (3, zi i)] [] 403 [] x m 403 [] Q) ∧ (((zand w (63 : Int)) = ((((((((((((((((((((((((((((((((((((((((((((0 : Int) + 1) + 1) + 1) + 1) + 1) + 1) + 1) + 1) + 1) + 1) + 1) + 1) + 1) + 1) + 1) + 1) + 1) + 1) + 1) + 1) + 1) + 1) + 1) + 1) + 1) + 1) + 1) + 1) + 1) + 1) + 1) + 1) + 1) + 1) + 1) + 1) + 1) + 1) + 1) + 1) + 1) + 1) + 1) → WP d 281 1459 [(0, zr 2000), (1, zr 0), (2, zr 386), (3, zi i)] [] 403 [] x m 403 [] Q) ∧ (((zand w (63 : Int)) = (((((((((((((((((((((((((((((((((((((((((((((0 : Int) + 1) + 1) + 1) + 1) + 1) + 1) + 1) + 1) + 1) + 1) + 1) + 1) + 1) + 1) + 1) + 1) + 1) + 1) + 1) + 1) + 1) + 1) + 1) + 1) + 1) + 1) + 1) + 1) + 1) + 1) + 1) + 1) + 1) + 1) + 1) + 1) + 1) + 1) + 1) + 1) + 1) + 1) + 1) + 1) → WP d 281 1502 [(0, zr 2000), (1, zr 0), (2, zr 386), (3, zi i)] [] 403 [] x m 403 [] Q) ∧ True))))))))))))))))))))))))))))))))))))))))))))))))))) : WP d 281 18 [(0, zr 2000), (1, zr 0), (2, zr 386), (3, zi i)] [] 403 [] x m 403 [] Q := zr0 (md := fun _ => 0) (cu := [(18, [0, 1, 2, 3]), (1525, [0, 1, 2, 3]), (228, [0, 1, 2, 3]), (261, [0, 1, 2, 3]), (294, [0, 1, 2, 3]), (327, [0, 1, 2, 3]), (360, [0, 1, 2, 3]), (403, [0, 1, 2, 3]), (446, [0, 1, 2, 3]), (479, [0, 1, 2, 3]), (522, [0, 1, 2, 3]), (565, [0, 1, 2, 3]), (598, [0, 1, 2, 3]), (621, [0, 1, 2, 3]), (654, [0, 1, 2, 3]), (687, [0, 1, 2, 3]), (720, [0, 1, 2, 3]), (753, [0, 1, 2, 3]), (786, [0, 1, 2, 3]), (819, [0, 1, 2, 3]), (832, [0, 1, 2, 3]), (865, [0, 1, 2, 3]), (898, [0, 1, 2, 3]), (931, [0, 1, 2, 3]), (954, [0, 1, 2, 3]), (977, [0, 1, 2, 3]), (1011, [0, 1, 2, 3]), (1055, [0, 1, 2, 3]), (1068, [0, 1, 2, 3]), (1111, [0, 1, 2, 3]), (1134, [0, 1, 2, 3]), (1157, [0, 1, 2, 3]), (1170, [0, 1, 2, 3]), (1203, [0, 1, 2, 3]), (1226, [0, 1, 2, 3]), (1249, [0, 1, 2, 3]), (1262, [0, 1, 2, 3]), (1305, [0, 1, 2, 3]), (1318, [0, 1, 2, 3]), (1341, [0, 1, 2, 3]), (1354, [0, 1, 2, 3]), (1367, [0, 1, 2, 3]), (1390, [0, 1, 2, 3]), (1423, [0, 1, 2, 3]), (1436, [0, 1, 2, 3]), (1459, [0, 1, 2, 3]), (1502, [0, 1, 2, 3])]) rfl h
set_option maxRecDepth 100000 in
theorem lr_end {d : Nat} {i : Int} {x m : zM} {Q : Int → zM → zM → Prop} (h : (zIn (i + (4 : Int)) ∧ WP d 281 18 [(0, zr 2000), (1, zr 0), (2, zr 386), (3, zi (i + (4 : Int)))] [] 403 [] x m 403 [] Q)) : WP d 281 1525 [(0, zr 2000), (1, zr 0), (2, zr 386), (3, zi i)] [] 403 [] x m 403 [] Q := zr0 (md := fun _ => 0) (cu := [(18, [0, 1, 2, 3]), (1525, [0, 1, 2, 3])]) rfl h
set_option maxRecDepth 100000 in
theorem lr_0 {d : Nat} {i : Int} {x m : zM} {Q : Int → zM → zM → Prop} (h : (zIn (i + (1 : Int)) ∧ ((0 ≤ (i + (1 : Int)) ∧ (i + (1 : Int)) < m 2000 (-1 : Int)) ∧ (∀ w1 : Int, zIn w1 → w1 = m 2000 (i + (1 : Int)) → (zIn (i + (2 : Int)) ∧ ((0 ≤ (i + (2 : Int)) ∧ (i + (2 : Int)) < m 2000 (-1 : Int)) ∧ (∀ w2 : Int, zIn w2 → w2 = m 2000 (i + (2 : Int)) → (1 ≤ d ∧ WPc (d - 1) 116 [zr 0, zi w1, zi w2] 403 [] x m 403 [] (fun q1 x1 m1 => (zIn (i + (1 : Int)) ∧ ((0 ≤ (i + (1 : Int)) ∧ (i + (1 : Int)) < m1 2000 (-1 : Int)) ∧ (∀ w3 : Int, zIn w3 → w3 = m1 2000 (i + (1 : Int)) → (zIn (i + (2 : Int)) ∧ ((0 ≤ (i + (2 : Int)) ∧ (i + (2 : Int)) < m1 2000 (-1 : Int)) ∧ (∀ w4 : Int, zIn w4 → w4 = m1 2000 (i + (2 : Int)) → (1 ≤ d ∧ WPc (d - 1) 182 [zr 386, zi w3, zi w4] 403 [] x1 m1 403 [] (fun q2 x2 m2 => ((q1 = q2 → WP d 281 1525 [(0, zr 2000), (1, zr 0), (2, zr 386), (3, zi i)] [] 403 [] x2 m2 403 [] Q) ∧ (q1 ≠ q2 → (((0 : Int) = 0 ∨ (0 : Int) = 1) ∧ Q 0 x2 m2)))))))))))))))))))) : WP d 281 228 [(0, zr 2000), (1, zr 0), (2, zr 386), (3, zi i)] [] 403 [] x m 403 [] Q := zr0 (md := fun _ => 0) (cu := [(18, [0, 1, 2, 3]), (1525, [0, 1, 2, 3])]) rfl h
set_option maxRecDepth 100000 in
theorem la_0 {d N : Nat} {i : Int} {x m : zM} {Q : Int → zM → zM → Prop} (hd : 90 ≤ d) (hNN : N ≤ 600) (hI : Inv N x m) (hi : 0 ≤ i) (hi2 : i + 4 ≤ m 2000 (-1)) (hL : m 2000 (-1) ≤ 2048) (K : ∀ x' m', Inv (N + 1) x' m' → m' 2000 = m 2000 → WP d 281 1525 [(0, zr 2000), (1, zr 0), (2, zr 386), (3, zi i)] [] 403 [] x' m' 403 [] Q) : WP d 281 228 [(0, zr 2000), (1, zr 0), (2, zr 386), (3, zi i)] [] 403 [] x m 403 [] Q := by
  apply lr_0
  refine ⟨by unfold zIn; omega, ⟨by omega, by omega⟩, fun w1 _ e1 => ?_⟩
  subst e1
  refine ⟨by unfold zIn; omega, ⟨by omega, by omega⟩, fun w2 _ e2 => ?_⟩
  subst e2
  refine ⟨by omega, t_member (dM := d - 1) (by omega) (by omega) hNN hI (fun q1 x1 hok => ?_)⟩
  refine ⟨by unfold zIn; omega, ⟨by omega, by omega⟩, fun w3 _ e3 => ?_⟩
  subst e3
  refine ⟨by unfold zIn; omega, ⟨by omega, by omega⟩, fun w4 _ e4 => ?_⟩
  subst e4
  exact ⟨by omega, hok _ (fun x2 m2 hI2 he => ⟨fun _ => K x2 m2 hI2 he, fun h => absurd rfl h⟩)⟩
set_option maxRecDepth 100000 in
theorem lr_1 {d : Nat} {i : Int} {x m : zM} {Q : Int → zM → zM → Prop} (h : (zIn (i + (1 : Int)) ∧ ((0 ≤ (i + (1 : Int)) ∧ (i + (1 : Int)) < m 2000 (-1 : Int)) ∧ (∀ w1 : Int, zIn w1 → w1 = m 2000 (i + (1 : Int)) → (zIn (i + (2 : Int)) ∧ ((0 ≤ (i + (2 : Int)) ∧ (i + (2 : Int)) < m 2000 (-1 : Int)) ∧ (∀ w2 : Int, zIn w2 → w2 = m 2000 (i + (2 : Int)) → (1 ≤ d ∧ WPc (d - 1) 117 [zr 0, zi w1, zi w2] 403 [] x m 403 [] (fun q1 x1 m1 => (zIn (i + (1 : Int)) ∧ ((0 ≤ (i + (1 : Int)) ∧ (i + (1 : Int)) < m1 2000 (-1 : Int)) ∧ (∀ w3 : Int, zIn w3 → w3 = m1 2000 (i + (1 : Int)) → (zIn (i + (2 : Int)) ∧ ((0 ≤ (i + (2 : Int)) ∧ (i + (2 : Int)) < m1 2000 (-1 : Int)) ∧ (∀ w4 : Int, zIn w4 → w4 = m1 2000 (i + (2 : Int)) → (1 ≤ d ∧ WPc (d - 1) 183 [zr 386, zi w3, zi w4] 403 [] x1 m1 403 [] (fun q2 x2 m2 => ((q1 = q2 → WP d 281 1525 [(0, zr 2000), (1, zr 0), (2, zr 386), (3, zi i)] [] 403 [] x2 m2 403 [] Q) ∧ (q1 ≠ q2 → (((0 : Int) = 0 ∨ (0 : Int) = 1) ∧ Q 0 x2 m2)))))))))))))))))))) : WP d 281 261 [(0, zr 2000), (1, zr 0), (2, zr 386), (3, zi i)] [] 403 [] x m 403 [] Q := zr0 (md := fun _ => 0) (cu := [(18, [0, 1, 2, 3]), (1525, [0, 1, 2, 3])]) rfl h
set_option maxRecDepth 100000 in
theorem la_1 {d N : Nat} {i : Int} {x m : zM} {Q : Int → zM → zM → Prop} (hd : 90 ≤ d) (hNN : N ≤ 600) (hI : Inv N x m) (hi : 0 ≤ i) (hi2 : i + 4 ≤ m 2000 (-1)) (hL : m 2000 (-1) ≤ 2048) (K : ∀ x' m', Inv (N + 1) x' m' → m' 2000 = m 2000 → WP d 281 1525 [(0, zr 2000), (1, zr 0), (2, zr 386), (3, zi i)] [] 403 [] x' m' 403 [] Q) : WP d 281 261 [(0, zr 2000), (1, zr 0), (2, zr 386), (3, zi i)] [] 403 [] x m 403 [] Q := by
  apply lr_1
  refine ⟨by unfold zIn; omega, ⟨by omega, by omega⟩, fun w1 _ e1 => ?_⟩
  subst e1
  refine ⟨by unfold zIn; omega, ⟨by omega, by omega⟩, fun w2 _ e2 => ?_⟩
  subst e2
  refine ⟨by omega, t_died (dM := d - 1) (by omega) (by omega) hNN hI (fun q1 x1 hok => ?_)⟩
  refine ⟨by unfold zIn; omega, ⟨by omega, by omega⟩, fun w3 _ e3 => ?_⟩
  subst e3
  refine ⟨by unfold zIn; omega, ⟨by omega, by omega⟩, fun w4 _ e4 => ?_⟩
  subst e4
  exact ⟨by omega, hok _ (fun x2 m2 hI2 he => ⟨fun _ => K x2 m2 hI2 he, fun h => absurd rfl h⟩)⟩
set_option maxRecDepth 100000 in
theorem lr_2 {d : Nat} {i : Int} {x m : zM} {Q : Int → zM → zM → Prop} (h : (zIn (i + (1 : Int)) ∧ ((0 ≤ (i + (1 : Int)) ∧ (i + (1 : Int)) < m 2000 (-1 : Int)) ∧ (∀ w1 : Int, zIn w1 → w1 = m 2000 (i + (1 : Int)) → (zIn (i + (2 : Int)) ∧ ((0 ≤ (i + (2 : Int)) ∧ (i + (2 : Int)) < m 2000 (-1 : Int)) ∧ (∀ w2 : Int, zIn w2 → w2 = m 2000 (i + (2 : Int)) → (1 ≤ d ∧ WPc (d - 1) 118 [zr 0, zi w1, zi w2] 403 [] x m 403 [] (fun q1 x1 m1 => (zIn (i + (1 : Int)) ∧ ((0 ≤ (i + (1 : Int)) ∧ (i + (1 : Int)) < m1 2000 (-1 : Int)) ∧ (∀ w3 : Int, zIn w3 → w3 = m1 2000 (i + (1 : Int)) → (zIn (i + (2 : Int)) ∧ ((0 ≤ (i + (2 : Int)) ∧ (i + (2 : Int)) < m1 2000 (-1 : Int)) ∧ (∀ w4 : Int, zIn w4 → w4 = m1 2000 (i + (2 : Int)) → (1 ≤ d ∧ WPc (d - 1) 184 [zr 386, zi w3, zi w4] 403 [] x1 m1 403 [] (fun q2 x2 m2 => ((q1 = q2 → WP d 281 1525 [(0, zr 2000), (1, zr 0), (2, zr 386), (3, zi i)] [] 403 [] x2 m2 403 [] Q) ∧ (q1 ≠ q2 → (((0 : Int) = 0 ∨ (0 : Int) = 1) ∧ Q 0 x2 m2)))))))))))))))))))) : WP d 281 294 [(0, zr 2000), (1, zr 0), (2, zr 386), (3, zi i)] [] 403 [] x m 403 [] Q := zr0 (md := fun _ => 0) (cu := [(18, [0, 1, 2, 3]), (1525, [0, 1, 2, 3])]) rfl h
set_option maxRecDepth 100000 in
theorem la_2 {d N : Nat} {i : Int} {x m : zM} {Q : Int → zM → zM → Prop} (hd : 90 ≤ d) (hNN : N ≤ 600) (hI : Inv N x m) (hi : 0 ≤ i) (hi2 : i + 4 ≤ m 2000 (-1)) (hL : m 2000 (-1) ≤ 2048) (K : ∀ x' m', Inv (N + 1) x' m' → m' 2000 = m 2000 → WP d 281 1525 [(0, zr 2000), (1, zr 0), (2, zr 386), (3, zi i)] [] 403 [] x' m' 403 [] Q) : WP d 281 294 [(0, zr 2000), (1, zr 0), (2, zr 386), (3, zi i)] [] 403 [] x m 403 [] Q := by
  apply lr_2
  refine ⟨by unfold zIn; omega, ⟨by omega, by omega⟩, fun w1 _ e1 => ?_⟩
  subst e1
  refine ⟨by unfold zIn; omega, ⟨by omega, by omega⟩, fun w2 _ e2 => ?_⟩
  subst e2
  refine ⟨by omega, t_save (dM := d - 1) (by omega) (by omega) hNN hI (fun q1 x1 hok => ?_)⟩
  refine ⟨by unfold zIn; omega, ⟨by omega, by omega⟩, fun w3 _ e3 => ?_⟩
  subst e3
  refine ⟨by unfold zIn; omega, ⟨by omega, by omega⟩, fun w4 _ e4 => ?_⟩
  subst e4
  exact ⟨by omega, hok _ (fun x2 m2 hI2 he => ⟨fun _ => K x2 m2 hI2 he, fun h => absurd rfl h⟩)⟩
set_option maxRecDepth 100000 in
theorem lr_3 {d : Nat} {i : Int} {x m : zM} {Q : Int → zM → zM → Prop} (h : (zIn (i + (1 : Int)) ∧ ((0 ≤ (i + (1 : Int)) ∧ (i + (1 : Int)) < m 2000 (-1 : Int)) ∧ (∀ w1 : Int, zIn w1 → w1 = m 2000 (i + (1 : Int)) → (zIn (i + (2 : Int)) ∧ ((0 ≤ (i + (2 : Int)) ∧ (i + (2 : Int)) < m 2000 (-1 : Int)) ∧ (∀ w2 : Int, zIn w2 → w2 = m 2000 (i + (2 : Int)) → (1 ≤ d ∧ WPc (d - 1) 119 [zr 0, zi w1, zi w2] 403 [] x m 403 [] (fun q1 x1 m1 => (zIn (i + (1 : Int)) ∧ ((0 ≤ (i + (1 : Int)) ∧ (i + (1 : Int)) < m1 2000 (-1 : Int)) ∧ (∀ w3 : Int, zIn w3 → w3 = m1 2000 (i + (1 : Int)) → (zIn (i + (2 : Int)) ∧ ((0 ≤ (i + (2 : Int)) ∧ (i + (2 : Int)) < m1 2000 (-1 : Int)) ∧ (∀ w4 : Int, zIn w4 → w4 = m1 2000 (i + (2 : Int)) → (1 ≤ d ∧ WPc (d - 1) 185 [zr 386, zi w3, zi w4] 403 [] x1 m1 403 [] (fun q2 x2 m2 => ((q1 = q2 → WP d 281 1525 [(0, zr 2000), (1, zr 0), (2, zr 386), (3, zi i)] [] 403 [] x2 m2 403 [] Q) ∧ (q1 ≠ q2 → (((0 : Int) = 0 ∨ (0 : Int) = 1) ∧ Q 0 x2 m2)))))))))))))))))))) : WP d 281 327 [(0, zr 2000), (1, zr 0), (2, zr 386), (3, zi i)] [] 403 [] x m 403 [] Q := zr0 (md := fun _ => 0) (cu := [(18, [0, 1, 2, 3]), (1525, [0, 1, 2, 3])]) rfl h
set_option maxRecDepth 100000 in
theorem la_3 {d N : Nat} {i : Int} {x m : zM} {Q : Int → zM → zM → Prop} (hd : 90 ≤ d) (hNN : N ≤ 600) (hI : Inv N x m) (hi : 0 ≤ i) (hi2 : i + 4 ≤ m 2000 (-1)) (hL : m 2000 (-1) ≤ 2048) (K : ∀ x' m', Inv (N + 1) x' m' → m' 2000 = m 2000 → WP d 281 1525 [(0, zr 2000), (1, zr 0), (2, zr 386), (3, zi i)] [] 403 [] x' m' 403 [] Q) : WP d 281 327 [(0, zr 2000), (1, zr 0), (2, zr 386), (3, zi i)] [] 403 [] x m 403 [] Q := by
  apply lr_3
  refine ⟨by unfold zIn; omega, ⟨by omega, by omega⟩, fun w1 _ e1 => ?_⟩
  subst e1
  refine ⟨by unfold zIn; omega, ⟨by omega, by omega⟩, fun w2 _ e2 => ?_⟩
  subst e2
  refine ⟨by omega, t_draw (dM := d - 1) (by omega) (by omega) hNN hI (fun q1 x1 hok => ?_)⟩
  refine ⟨by unfold zIn; omega, ⟨by omega, by omega⟩, fun w3 _ e3 => ?_⟩
  subst e3
  refine ⟨by unfold zIn; omega, ⟨by omega, by omega⟩, fun w4 _ e4 => ?_⟩
  subst e4
  exact ⟨by omega, hok _ (fun x2 m2 hI2 he => ⟨fun _ => K x2 m2 hI2 he, fun h => absurd rfl h⟩)⟩
set_option maxRecDepth 100000 in
theorem lr_4 {d : Nat} {i : Int} {x m : zM} {Q : Int → zM → zM → Prop} (h : (zIn (i + (1 : Int)) ∧ ((0 ≤ (i + (1 : Int)) ∧ (i + (1 : Int)) < m 2000 (-1 : Int)) ∧ (∀ w1 : Int, zIn w1 → w1 = m 2000 (i + (1 : Int)) → (zIn (i + (2 : Int)) ∧ ((0 ≤ (i + (2 : Int)) ∧ (i + (2 : Int)) < m 2000 (-1 : Int)) ∧ (∀ w2 : Int, zIn w2 → w2 = m 2000 (i + (2 : Int)) → (zIn (i + (3 : Int)) ∧ ((0 ≤ (i + (3 : Int)) ∧ (i + (3 : Int)) < m 2000 (-1 : Int)) ∧ (∀ w3 : Int, zIn w3 → w3 = m 2000 (i + (3 : Int)) → (1 ≤ d ∧ WPc (d - 1) 120 [zr 0, zi w1, zi w2, zi w3] 403 [] x m 403 [] (fun q1 x1 m1 => (zIn (i + (1 : Int)) ∧ ((0 ≤ (i + (1 : Int)) ∧ (i + (1 : Int)) < m1 2000 (-1 : Int)) ∧ (∀ w4 : Int, zIn w4 → w4 = m1 2000 (i + (1 : Int)) → (zIn (i + (2 : Int)) ∧ ((0 ≤ (i + (2 : Int)) ∧ (i + (2 : Int)) < m1 2000 (-1 : Int)) ∧ (∀ w5 : Int, zIn w5 → w5 = m1 2000 (i + (2 : Int)) → (zIn (i + (3 : Int)) ∧ ((0 ≤ (i + (3 : Int)) ∧ (i + (3 : Int)) < m1 2000 (-1 : Int)) ∧ (∀ w6 : Int, zIn w6 → w6 = m1 2000 (i + (3 : Int)) → (1 ≤ d ∧ WPc (d - 1) 186 [zr 386, zi w4, zi w5, zi w6] 403 [] x1 m1 403 [] (fun q2 x2 m2 => ((q1 = q2 → WP d 281 1525 [(0, zr 2000), (1, zr 0), (2, zr 386), (3, zi i)] [] 403 [] x2 m2 403 [] Q) ∧ (q1 ≠ q2 → (((0 : Int) = 0 ∨ (0 : Int) = 1) ∧ Q 0 x2 m2)))))))))))))))))))))))))) : WP d 281 360 [(0, zr 2000), (1, zr 0), (2, zr 386), (3, zi i)] [] 403 [] x m 403 [] Q := zr0 (md := fun _ => 0) (cu := [(18, [0, 1, 2, 3]), (1525, [0, 1, 2, 3])]) rfl h
set_option maxRecDepth 100000 in
theorem la_4 {d N : Nat} {i : Int} {x m : zM} {Q : Int → zM → zM → Prop} (hd : 90 ≤ d) (hNN : N ≤ 600) (hI : Inv N x m) (hi : 0 ≤ i) (hi2 : i + 4 ≤ m 2000 (-1)) (hL : m 2000 (-1) ≤ 2048) (K : ∀ x' m', Inv (N + 1) x' m' → m' 2000 = m 2000 → WP d 281 1525 [(0, zr 2000), (1, zr 0), (2, zr 386), (3, zi i)] [] 403 [] x' m' 403 [] Q) : WP d 281 360 [(0, zr 2000), (1, zr 0), (2, zr 386), (3, zi i)] [] 403 [] x m 403 [] Q := by
  apply lr_4
  refine ⟨by unfold zIn; omega, ⟨by omega, by omega⟩, fun w1 _ e1 => ?_⟩
  subst e1
  refine ⟨by unfold zIn; omega, ⟨by omega, by omega⟩, fun w2 _ e2 => ?_⟩
  subst e2
  refine ⟨by unfold zIn; omega, ⟨by omega, by omega⟩, fun w3 _ e3 => ?_⟩
  subst e3
  refine ⟨by omega, t_found (dM := d - 1) (by omega) (by omega) hNN hI (fun q1 x1 hok => ?_)⟩
  refine ⟨by unfold zIn; omega, ⟨by omega, by omega⟩, fun w4 _ e4 => ?_⟩
  subst e4
  refine ⟨by unfold zIn; omega, ⟨by omega, by omega⟩, fun w5 _ e5 => ?_⟩
  subst e5
  refine ⟨by unfold zIn; omega, ⟨by omega, by omega⟩, fun w6 _ e6 => ?_⟩
  subst e6
  exact ⟨by omega, hok _ (fun x2 m2 hI2 he => ⟨fun _ => K x2 m2 hI2 he, fun h => absurd rfl h⟩)⟩
set_option maxRecDepth 100000 in
theorem lr_5 {d : Nat} {i : Int} {x m : zM} {Q : Int → zM → zM → Prop} (h : (zIn (i + (1 : Int)) ∧ ((0 ≤ (i + (1 : Int)) ∧ (i + (1 : Int)) < m 2000 (-1 : Int)) ∧ (∀ w1 : Int, zIn w1 → w1 = m 2000 (i + (1 : Int)) → (zIn (i + (2 : Int)) ∧ ((0 ≤ (i + (2 : Int)) ∧ (i + (2 : Int)) < m 2000 (-1 : Int)) ∧ (∀ w2 : Int, zIn w2 → w2 = m 2000 (i + (2 : Int)) → (zIn (i + (3 : Int)) ∧ ((0 ≤ (i + (3 : Int)) ∧ (i + (3 : Int)) < m 2000 (-1 : Int)) ∧ (∀ w3 : Int, zIn w3 → w3 = m 2000 (i + (3 : Int)) → (1 ≤ d ∧ WPc (d - 1) 121 [zr 0, zi w1, zi w2, zi w3] 403 [] x m 403 [] (fun q1 x1 m1 => (zIn (i + (1 : Int)) ∧ ((0 ≤ (i + (1 : Int)) ∧ (i + (1 : Int)) < m1 2000 (-1 : Int)) ∧ (∀ w4 : Int, zIn w4 → w4 = m1 2000 (i + (1 : Int)) → (zIn (i + (2 : Int)) ∧ ((0 ≤ (i + (2 : Int)) ∧ (i + (2 : Int)) < m1 2000 (-1 : Int)) ∧ (∀ w5 : Int, zIn w5 → w5 = m1 2000 (i + (2 : Int)) → (zIn (i + (3 : Int)) ∧ ((0 ≤ (i + (3 : Int)) ∧ (i + (3 : Int)) < m1 2000 (-1 : Int)) ∧ (∀ w6 : Int, zIn w6 → w6 = m1 2000 (i + (3 : Int)) → (1 ≤ d ∧ WPc (d - 1) 187 [zr 386, zi w4, zi w5, zi w6] 403 [] x1 m1 403 [] (fun q2 x2 m2 => ((q1 = q2 → WP d 281 1525 [(0, zr 2000), (1, zr 0), (2, zr 386), (3, zi i)] [] 403 [] x2 m2 403 [] Q) ∧ (q1 ≠ q2 → (((0 : Int) = 0 ∨ (0 : Int) = 1) ∧ Q 0 x2 m2)))))))))))))))))))))))))) : WP d 281 403 [(0, zr 2000), (1, zr 0), (2, zr 386), (3, zi i)] [] 403 [] x m 403 [] Q := zr0 (md := fun _ => 0) (cu := [(18, [0, 1, 2, 3]), (1525, [0, 1, 2, 3])]) rfl h
set_option maxRecDepth 100000 in
theorem la_5 {d N : Nat} {i : Int} {x m : zM} {Q : Int → zM → zM → Prop} (hd : 90 ≤ d) (hNN : N ≤ 600) (hI : Inv N x m) (hi : 0 ≤ i) (hi2 : i + 4 ≤ m 2000 (-1)) (hL : m 2000 (-1) ≤ 2048) (K : ∀ x' m', Inv (N + 1) x' m' → m' 2000 = m 2000 → WP d 281 1525 [(0, zr 2000), (1, zr 0), (2, zr 386), (3, zi i)] [] 403 [] x' m' 403 [] Q) : WP d 281 403 [(0, zr 2000), (1, zr 0), (2, zr 386), (3, zi i)] [] 403 [] x m 403 [] Q := by
  apply lr_5
  refine ⟨by unfold zIn; omega, ⟨by omega, by omega⟩, fun w1 _ e1 => ?_⟩
  subst e1
  refine ⟨by unfold zIn; omega, ⟨by omega, by omega⟩, fun w2 _ e2 => ?_⟩
  subst e2
  refine ⟨by unfold zIn; omega, ⟨by omega, by omega⟩, fun w3 _ e3 => ?_⟩
  subst e3
  refine ⟨by omega, t_saved (dM := d - 1) (by omega) (by omega) hNN hI (fun q1 x1 hok => ?_)⟩
  refine ⟨by unfold zIn; omega, ⟨by omega, by omega⟩, fun w4 _ e4 => ?_⟩
  subst e4
  refine ⟨by unfold zIn; omega, ⟨by omega, by omega⟩, fun w5 _ e5 => ?_⟩
  subst e5
  refine ⟨by unfold zIn; omega, ⟨by omega, by omega⟩, fun w6 _ e6 => ?_⟩
  subst e6
  exact ⟨by omega, hok _ (fun x2 m2 hI2 he => ⟨fun _ => K x2 m2 hI2 he, fun h => absurd rfl h⟩)⟩
set_option maxRecDepth 100000 in
theorem lr_6 {d : Nat} {i : Int} {x m : zM} {Q : Int → zM → zM → Prop} (h : (zIn (i + (1 : Int)) ∧ ((0 ≤ (i + (1 : Int)) ∧ (i + (1 : Int)) < m 2000 (-1 : Int)) ∧ (∀ w1 : Int, zIn w1 → w1 = m 2000 (i + (1 : Int)) → (zIn (i + (2 : Int)) ∧ ((0 ≤ (i + (2 : Int)) ∧ (i + (2 : Int)) < m 2000 (-1 : Int)) ∧ (∀ w2 : Int, zIn w2 → w2 = m 2000 (i + (2 : Int)) → (1 ≤ d ∧ WPc (d - 1) 122 [zr 0, zi w1, zi w2] 403 [] x m 403 [] (fun q1 x1 m1 => (zIn (i + (1 : Int)) ∧ ((0 ≤ (i + (1 : Int)) ∧ (i + (1 : Int)) < m1 2000 (-1 : Int)) ∧ (∀ w3 : Int, zIn w3 → w3 = m1 2000 (i + (1 : Int)) → (zIn (i + (2 : Int)) ∧ ((0 ≤ (i + (2 : Int)) ∧ (i + (2 : Int)) < m1 2000 (-1 : Int)) ∧ (∀ w4 : Int, zIn w4 → w4 = m1 2000 (i + (2 : Int)) → (1 ≤ d ∧ WPc (d - 1) 201 [zr 386, zi w3, zi w4] 403 [] x1 m1 403 [] (fun q2 x2 m2 => ((q1 = q2 → WP d 281 1525 [(0, zr 2000), (1, zr 0), (2, zr 386), (3, zi i)] [] 403 [] x2 m2 403 [] Q) ∧ (q1 ≠ q2 → (((0 : Int) = 0 ∨ (0 : Int) = 1) ∧ Q 0 x2 m2)))))))))))))))))))) : WP d 281 446 [(0, zr 2000), (1, zr 0), (2, zr 386), (3, zi i)] [] 403 [] x m 403 [] Q := zr0 (md := fun _ => 0) (cu := [(18, [0, 1, 2, 3]), (1525, [0, 1, 2, 3])]) rfl h
set_option maxRecDepth 100000 in
theorem la_6 {d N : Nat} {i : Int} {x m : zM} {Q : Int → zM → zM → Prop} (hd : 90 ≤ d) (hNN : N ≤ 600) (hI : Inv N x m) (hi : 0 ≤ i) (hi2 : i + 4 ≤ m 2000 (-1)) (hL : m 2000 (-1) ≤ 2048) (K : ∀ x' m', Inv (N + 1) x' m' → m' 2000 = m 2000 → WP d 281 1525 [(0, zr 2000), (1, zr 0), (2, zr 386), (3, zi i)] [] 403 [] x' m' 403 [] Q) : WP d 281 446 [(0, zr 2000), (1, zr 0), (2, zr 386), (3, zi i)] [] 403 [] x m 403 [] Q := by
  apply lr_6
  refine ⟨by unfold zIn; omega, ⟨by omega, by omega⟩, fun w1 _ e1 => ?_⟩
  subst e1
  refine ⟨by unfold zIn; omega, ⟨by omega, by omega⟩, fun w2 _ e2 => ?_⟩
  subst e2
  refine ⟨by omega, t_look (dM := d - 1) (by omega) (by omega) hNN hI (fun q1 x1 hok => ?_)⟩
  refine ⟨by unfold zIn; omega, ⟨by omega, by omega⟩, fun w3 _ e3 => ?_⟩
  subst e3
  refine ⟨by unfold zIn; omega, ⟨by omega, by omega⟩, fun w4 _ e4 => ?_⟩
  subst e4
  exact ⟨by omega, hok _ (fun x2 m2 hI2 he => ⟨fun _ => K x2 m2 hI2 he, fun h => absurd rfl h⟩)⟩
set_option maxRecDepth 100000 in
theorem lr_7 {d : Nat} {i : Int} {x m : zM} {Q : Int → zM → zM → Prop} (h : (zIn (i + (1 : Int)) ∧ ((0 ≤ (i + (1 : Int)) ∧ (i + (1 : Int)) < m 2000 (-1 : Int)) ∧ (∀ w1 : Int, zIn w1 → w1 = m 2000 (i + (1 : Int)) → (zIn (i + (2 : Int)) ∧ ((0 ≤ (i + (2 : Int)) ∧ (i + (2 : Int)) < m 2000 (-1 : Int)) ∧ (∀ w2 : Int, zIn w2 → w2 = m 2000 (i + (2 : Int)) → (zIn (i + (3 : Int)) ∧ ((0 ≤ (i + (3 : Int)) ∧ (i + (3 : Int)) < m 2000 (-1 : Int)) ∧ (∀ w3 : Int, zIn w3 → w3 = m 2000 (i + (3 : Int)) → (1 ≤ d ∧ WPc (d - 1) 123 [zr 0, zi w1, zi w2, zi w3] 403 [] x m 403 [] (fun q1 x1 m1 => (zIn (i + (1 : Int)) ∧ ((0 ≤ (i + (1 : Int)) ∧ (i + (1 : Int)) < m1 2000 (-1 : Int)) ∧ (∀ w4 : Int, zIn w4 → w4 = m1 2000 (i + (1 : Int)) → (zIn (i + (2 : Int)) ∧ ((0 ≤ (i + (2 : Int)) ∧ (i + (2 : Int)) < m1 2000 (-1 : Int)) ∧ (∀ w5 : Int, zIn w5 → w5 = m1 2000 (i + (2 : Int)) → (zIn (i + (3 : Int)) ∧ ((0 ≤ (i + (3 : Int)) ∧ (i + (3 : Int)) < m1 2000 (-1 : Int)) ∧ (∀ w6 : Int, zIn w6 → w6 = m1 2000 (i + (3 : Int)) → (1 ≤ d ∧ WPc (d - 1) 202 [zr 386, zi w4, zi w5, zi w6] 403 [] x1 m1 403 [] (fun q2 x2 m2 => ((q1 = q2 → WP d 281 1525 [(0, zr 2000), (1, zr 0), (2, zr 386), (3, zi i)] [] 403 [] x2 m2 403 [] Q) ∧ (q1 ≠ q2 → (((0 : Int) = 0 ∨ (0 : Int) = 1) ∧ Q 0 x2 m2)))))))))))))))))))))))))) : WP d 281 479 [(0, zr 2000), (1, zr 0), (2, zr 386), (3, zi i)] [] 403 [] x m 403 [] Q := zr0 (md := fun _ => 0) (cu := [(18, [0, 1, 2, 3]), (1525, [0, 1, 2, 3])]) rfl h
set_option maxRecDepth 100000 in
theorem la_7 {d N : Nat} {i : Int} {x m : zM} {Q : Int → zM → zM → Prop} (hd : 90 ≤ d) (hNN : N ≤ 600) (hI : Inv N x m) (hi : 0 ≤ i) (hi2 : i + 4 ≤ m 2000 (-1)) (hL : m 2000 (-1) ≤ 2048) (K : ∀ x' m', Inv (N + 1) x' m' → m' 2000 = m 2000 → WP d 281 1525 [(0, zr 2000), (1, zr 0), (2, zr 386), (3, zi i)] [] 403 [] x' m' 403 [] Q) : WP d 281 479 [(0, zr 2000), (1, zr 0), (2, zr 386), (3, zi i)] [] 403 [] x m 403 [] Q := by
  apply lr_7
  refine ⟨by unfold zIn; omega, ⟨by omega, by omega⟩, fun w1 _ e1 => ?_⟩
  subst e1
  refine ⟨by unfold zIn; omega, ⟨by omega, by omega⟩, fun w2 _ e2 => ?_⟩
  subst e2
  refine ⟨by unfold zIn; omega, ⟨by omega, by omega⟩, fun w3 _ e3 => ?_⟩
  subst e3
  refine ⟨by omega, t_ask (dM := d - 1) (by omega) (by omega) hNN hI (fun q1 x1 hok => ?_)⟩
  refine ⟨by unfold zIn; omega, ⟨by omega, by omega⟩, fun w4 _ e4 => ?_⟩
  subst e4
  refine ⟨by unfold zIn; omega, ⟨by omega, by omega⟩, fun w5 _ e5 => ?_⟩
  subst e5
  refine ⟨by unfold zIn; omega, ⟨by omega, by omega⟩, fun w6 _ e6 => ?_⟩
  subst e6
  exact ⟨by omega, hok _ (fun x2 m2 hI2 he => ⟨fun _ => K x2 m2 hI2 he, fun h => absurd rfl h⟩)⟩
set_option maxRecDepth 100000 in
theorem lr_8 {d : Nat} {i : Int} {x m : zM} {Q : Int → zM → zM → Prop} (h : (zIn (i + (1 : Int)) ∧ ((0 ≤ (i + (1 : Int)) ∧ (i + (1 : Int)) < m 2000 (-1 : Int)) ∧ (∀ w1 : Int, zIn w1 → w1 = m 2000 (i + (1 : Int)) → (zIn (i + (2 : Int)) ∧ ((0 ≤ (i + (2 : Int)) ∧ (i + (2 : Int)) < m 2000 (-1 : Int)) ∧ (∀ w2 : Int, zIn w2 → w2 = m 2000 (i + (2 : Int)) → (zIn (i + (3 : Int)) ∧ ((0 ≤ (i + (3 : Int)) ∧ (i + (3 : Int)) < m 2000 (-1 : Int)) ∧ (∀ w3 : Int, zIn w3 → w3 = m 2000 (i + (3 : Int)) → (1 ≤ d ∧ WPc (d - 1) 124 [zr 0, zi w1, zi w2, zi w3] 403 [] x m 403 [] (fun q1 x1 m1 => (zIn (i + (1 : Int)) ∧ ((0 ≤ (i + (1 : Int)) ∧ (i + (1 : Int)) < m1 2000 (-1 : Int)) ∧ (∀ w4 : Int, zIn w4 → w4 = m1 2000 (i + (1 : Int)) → (zIn (i + (2 : Int)) ∧ ((0 ≤ (i + (2 : Int)) ∧ (i + (2 : Int)) < m1 2000 (-1 : Int)) ∧ (∀ w5 : Int, zIn w5 → w5 = m1 2000 (i + (2 : Int)) → (zIn (i + (3 : Int)) ∧ ((0 ≤ (i + (3 : Int)) ∧ (i + (3 : Int)) < m1 2000 (-1 : Int)) ∧ (∀ w6 : Int, zIn w6 → w6 = m1 2000 (i + (3 : Int)) → (1 ≤ d ∧ WPc (d - 1) 203 [zr 386, zi w4, zi w5, zi w6] 403 [] x1 m1 403 [] (fun q2 x2 m2 => ((q1 = q2 → WP d 281 1525 [(0, zr 2000), (1, zr 0), (2, zr 386), (3, zi i)] [] 403 [] x2 m2 403 [] Q) ∧ (q1 ≠ q2 → (((0 : Int) = 0 ∨ (0 : Int) = 1) ∧ Q 0 x2 m2)))))))))))))))))))))))))) : WP d 281 522 [(0, zr 2000), (1, zr 0), (2, zr 386), (3, zi i)] [] 403 [] x m 403 [] Q := zr0 (md := fun _ => 0) (cu := [(18, [0, 1, 2, 3]), (1525, [0, 1, 2, 3])]) rfl h
set_option maxRecDepth 100000 in
theorem la_8 {d N : Nat} {i : Int} {x m : zM} {Q : Int → zM → zM → Prop} (hd : 90 ≤ d) (hNN : N ≤ 600) (hI : Inv N x m) (hi : 0 ≤ i) (hi2 : i + 4 ≤ m 2000 (-1)) (hL : m 2000 (-1) ≤ 2048) (K : ∀ x' m', Inv (N + 1) x' m' → m' 2000 = m 2000 → WP d 281 1525 [(0, zr 2000), (1, zr 0), (2, zr 386), (3, zi i)] [] 403 [] x' m' 403 [] Q) : WP d 281 522 [(0, zr 2000), (1, zr 0), (2, zr 386), (3, zi i)] [] 403 [] x m 403 [] Q := by
  apply lr_8
  refine ⟨by unfold zIn; omega, ⟨by omega, by omega⟩, fun w1 _ e1 => ?_⟩
  subst e1
  refine ⟨by unfold zIn; omega, ⟨by omega, by omega⟩, fun w2 _ e2 => ?_⟩
  subst e2
  refine ⟨by unfold zIn; omega, ⟨by omega, by omega⟩, fun w3 _ e3 => ?_⟩
  subst e3
  refine ⟨by omega, t_back (dM := d - 1) (by omega) (by omega) hNN hI (fun q1 x1 hok => ?_)⟩
  refine ⟨by unfold zIn; omega, ⟨by omega, by omega⟩, fun w4 _ e4 => ?_⟩
  subst e4
  refine ⟨by unfold zIn; omega, ⟨by omega, by omega⟩, fun w5 _ e5 => ?_⟩
  subst e5
  refine ⟨by unfold zIn; omega, ⟨by omega, by omega⟩, fun w6 _ e6 => ?_⟩
  subst e6
  exact ⟨by omega, hok _ (fun x2 m2 hI2 he => ⟨fun _ => K x2 m2 hI2 he, fun h => absurd rfl h⟩)⟩
set_option maxRecDepth 100000 in
theorem lr_9 {d : Nat} {i : Int} {x m : zM} {Q : Int → zM → zM → Prop} (h : (zIn (i + (1 : Int)) ∧ ((0 ≤ (i + (1 : Int)) ∧ (i + (1 : Int)) < m 2000 (-1 : Int)) ∧ (∀ w1 : Int, zIn w1 → w1 = m 2000 (i + (1 : Int)) → (zIn (i + (2 : Int)) ∧ ((0 ≤ (i + (2 : Int)) ∧ (i + (2 : Int)) < m 2000 (-1 : Int)) ∧ (∀ w2 : Int, zIn w2 → w2 = m 2000 (i + (2 : Int)) → (1 ≤ d ∧ WPc (d - 1) 125 [zr 0, zi w1, zi w2] 403 [] x m 403 [] (fun q1 x1 m1 => (zIn (i + (1 : Int)) ∧ ((0 ≤ (i + (1 : Int)) ∧ (i + (1 : Int)) < m1 2000 (-1 : Int)) ∧ (∀ w3 : Int, zIn w3 → w3 = m1 2000 (i + (1 : Int)) → (zIn (i + (2 : Int)) ∧ ((0 ≤ (i + (2 : Int)) ∧ (i + (2 : Int)) < m1 2000 (-1 : Int)) ∧ (∀ w4 : Int, zIn w4 → w4 = m1 2000 (i + (2 : Int)) → (1 ≤ d ∧ WPc (d - 1) 210 [zr 386, zi w3, zi w4] 403 [] x1 m1 403 [] (fun q2 x2 m2 => ((q1 = q2 → WP d 281 1525 [(0, zr 2000), (1, zr 0), (2, zr 386), (3, zi i)] [] 403 [] x2 m2 403 [] Q) ∧ (q1 ≠ q2 → (((0 : Int) = 0 ∨ (0 : Int) = 1) ∧ Q 0 x2 m2)))))))))))))))))))) : WP d 281 565 [(0, zr 2000), (1, zr 0), (2, zr 386), (3, zi i)] [] 403 [] x m 403 [] Q := zr0 (md := fun _ => 0) (cu := [(18, [0, 1, 2, 3]), (1525, [0, 1, 2, 3])]) rfl h
set_option maxRecDepth 100000 in
theorem la_9 {d N : Nat} {i : Int} {x m : zM} {Q : Int → zM → zM → Prop} (hd : 90 ≤ d) (hNN : N ≤ 600) (hI : Inv N x m) (hi : 0 ≤ i) (hi2 : i + 4 ≤ m 2000 (-1)) (hL : m 2000 (-1) ≤ 2048) (K : ∀ x' m', Inv (N + 1) x' m' → m' 2000 = m 2000 → WP d 281 1525 [(0, zr 2000), (1, zr 0), (2, zr 386), (3, zi i)] [] 403 [] x' m' 403 [] Q) : WP d 281 565 [(0, zr 2000), (1, zr 0), (2, zr 386), (3, zi i)] [] 403 [] x m 403 [] Q := by
  apply lr_9
  refine ⟨by unfold zIn; omega, ⟨by omega, by omega⟩, fun w1 _ e1 => ?_⟩
  subst e1
  refine ⟨by unfold zIn; omega, ⟨by omega, by omega⟩, fun w2 _ e2 => ?_⟩
  subst e2
  refine ⟨by omega, t_askOf (dM := d - 1) (by omega) (by omega) hNN hI (fun q1 x1 hok => ?_)⟩
  refine ⟨by unfold zIn; omega, ⟨by omega, by omega⟩, fun w3 _ e3 => ?_⟩
  subst e3
  refine ⟨by unfold zIn; omega, ⟨by omega, by omega⟩, fun w4 _ e4 => ?_⟩
  subst e4
  exact ⟨by omega, hok _ (fun x2 m2 hI2 he => ⟨fun _ => K x2 m2 hI2 he, fun h => absurd rfl h⟩)⟩
set_option maxRecDepth 100000 in
theorem lr_10 {d : Nat} {i : Int} {x m : zM} {Q : Int → zM → zM → Prop} (h : (zIn (i + (1 : Int)) ∧ ((0 ≤ (i + (1 : Int)) ∧ (i + (1 : Int)) < m 2000 (-1 : Int)) ∧ (∀ w1 : Int, zIn w1 → w1 = m 2000 (i + (1 : Int)) → (1 ≤ d ∧ WPc (d - 1) 126 [zr 0, zi w1] 403 [] x m 403 [] (fun q1 x1 m1 => (zIn (i + (1 : Int)) ∧ ((0 ≤ (i + (1 : Int)) ∧ (i + (1 : Int)) < m1 2000 (-1 : Int)) ∧ (∀ w2 : Int, zIn w2 → w2 = m1 2000 (i + (1 : Int)) → (1 ≤ d ∧ WPc (d - 1) 211 [zr 386, zi w2] 403 [] x1 m1 403 [] (fun q2 x2 m2 => ((q1 = q2 → WP d 281 1525 [(0, zr 2000), (1, zr 0), (2, zr 386), (3, zi i)] [] 403 [] x2 m2 403 [] Q) ∧ (q1 ≠ q2 → (((0 : Int) = 0 ∨ (0 : Int) = 1) ∧ Q 0 x2 m2)))))))))))))) : WP d 281 598 [(0, zr 2000), (1, zr 0), (2, zr 386), (3, zi i)] [] 403 [] x m 403 [] Q := zr0 (md := fun _ => 0) (cu := [(18, [0, 1, 2, 3]), (1525, [0, 1, 2, 3])]) rfl h
set_option maxRecDepth 100000 in
theorem la_10 {d N : Nat} {i : Int} {x m : zM} {Q : Int → zM → zM → Prop} (hd : 90 ≤ d) (hNN : N ≤ 600) (hI : Inv N x m) (hi : 0 ≤ i) (hi2 : i + 4 ≤ m 2000 (-1)) (hL : m 2000 (-1) ≤ 2048) (K : ∀ x' m', Inv (N + 1) x' m' → m' 2000 = m 2000 → WP d 281 1525 [(0, zr 2000), (1, zr 0), (2, zr 386), (3, zi i)] [] 403 [] x' m' 403 [] Q) : WP d 281 598 [(0, zr 2000), (1, zr 0), (2, zr 386), (3, zi i)] [] 403 [] x m 403 [] Q := by
  apply lr_10
  refine ⟨by unfold zIn; omega, ⟨by omega, by omega⟩, fun w1 _ e1 => ?_⟩
  subst e1
  refine ⟨by omega, t_answer (dM := d - 1) (by omega) (by omega) hNN hI (fun q1 x1 hok => ?_)⟩
  refine ⟨by unfold zIn; omega, ⟨by omega, by omega⟩, fun w2 _ e2 => ?_⟩
  subst e2
  exact ⟨by omega, hok _ (fun x2 m2 hI2 he => ⟨fun _ => K x2 m2 hI2 he, fun h => absurd rfl h⟩)⟩
set_option maxRecDepth 100000 in
theorem lr_11 {d : Nat} {i : Int} {x m : zM} {Q : Int → zM → zM → Prop} (h : (zIn (i + (1 : Int)) ∧ ((0 ≤ (i + (1 : Int)) ∧ (i + (1 : Int)) < m 2000 (-1 : Int)) ∧ (∀ w1 : Int, zIn w1 → w1 = m 2000 (i + (1 : Int)) → (zIn (i + (2 : Int)) ∧ ((0 ≤ (i + (2 : Int)) ∧ (i + (2 : Int)) < m 2000 (-1 : Int)) ∧ (∀ w2 : Int, zIn w2 → w2 = m 2000 (i + (2 : Int)) → (1 ≤ d ∧ WPc (d - 1) 127 [zr 0, zi w1, zi w2] 403 [] x m 403 [] (fun q1 x1 m1 => (zIn (i + (1 : Int)) ∧ ((0 ≤ (i + (1 : Int)) ∧ (i + (1 : Int)) < m1 2000 (-1 : Int)) ∧ (∀ w3 : Int, zIn w3 → w3 = m1 2000 (i + (1 : Int)) → (zIn (i + (2 : Int)) ∧ ((0 ≤ (i + (2 : Int)) ∧ (i + (2 : Int)) < m1 2000 (-1 : Int)) ∧ (∀ w4 : Int, zIn w4 → w4 = m1 2000 (i + (2 : Int)) → (1 ≤ d ∧ WPc (d - 1) 212 [zr 386, zi w3, zi w4] 403 [] x1 m1 403 [] (fun q2 x2 m2 => ((q1 = q2 → WP d 281 1525 [(0, zr 2000), (1, zr 0), (2, zr 386), (3, zi i)] [] 403 [] x2 m2 403 [] Q) ∧ (q1 ≠ q2 → (((0 : Int) = 0 ∨ (0 : Int) = 1) ∧ Q 0 x2 m2)))))))))))))))))))) : WP d 281 621 [(0, zr 2000), (1, zr 0), (2, zr 386), (3, zi i)] [] 403 [] x m 403 [] Q := zr0 (md := fun _ => 0) (cu := [(18, [0, 1, 2, 3]), (1525, [0, 1, 2, 3])]) rfl h
set_option maxRecDepth 100000 in
theorem la_11 {d N : Nat} {i : Int} {x m : zM} {Q : Int → zM → zM → Prop} (hd : 90 ≤ d) (hNN : N ≤ 600) (hI : Inv N x m) (hi : 0 ≤ i) (hi2 : i + 4 ≤ m 2000 (-1)) (hL : m 2000 (-1) ≤ 2048) (K : ∀ x' m', Inv (N + 1) x' m' → m' 2000 = m 2000 → WP d 281 1525 [(0, zr 2000), (1, zr 0), (2, zr 386), (3, zi i)] [] 403 [] x' m' 403 [] Q) : WP d 281 621 [(0, zr 2000), (1, zr 0), (2, zr 386), (3, zi i)] [] 403 [] x m 403 [] Q := by
  apply lr_11
  refine ⟨by unfold zIn; omega, ⟨by omega, by omega⟩, fun w1 _ e1 => ?_⟩
  subst e1
  refine ⟨by unfold zIn; omega, ⟨by omega, by omega⟩, fun w2 _ e2 => ?_⟩
  subst e2
  refine ⟨by omega, t_pay (dM := d - 1) (by omega) (by omega) hNN hI (fun q1 x1 hok => ?_)⟩
  refine ⟨by unfold zIn; omega, ⟨by omega, by omega⟩, fun w3 _ e3 => ?_⟩
  subst e3
  refine ⟨by unfold zIn; omega, ⟨by omega, by omega⟩, fun w4 _ e4 => ?_⟩
  subst e4
  exact ⟨by omega, hok _ (fun x2 m2 hI2 he => ⟨fun _ => K x2 m2 hI2 he, fun h => absurd rfl h⟩)⟩
set_option maxRecDepth 100000 in
theorem lr_12 {d : Nat} {i : Int} {x m : zM} {Q : Int → zM → zM → Prop} (h : (zIn (i + (1 : Int)) ∧ ((0 ≤ (i + (1 : Int)) ∧ (i + (1 : Int)) < m 2000 (-1 : Int)) ∧ (∀ w1 : Int, zIn w1 → w1 = m 2000 (i + (1 : Int)) → (zIn (i + (2 : Int)) ∧ ((0 ≤ (i + (2 : Int)) ∧ (i + (2 : Int)) < m 2000 (-1 : Int)) ∧ (∀ w2 : Int, zIn w2 → w2 = m 2000 (i + (2 : Int)) → (1 ≤ d ∧ WPc (d - 1) 128 [zr 0, zi w1, zi w2] 403 [] x m 403 [] (fun q1 x1 m1 => (zIn (i + (1 : Int)) ∧ ((0 ≤ (i + (1 : Int)) ∧ (i + (1 : Int)) < m1 2000 (-1 : Int)) ∧ (∀ w3 : Int, zIn w3 → w3 = m1 2000 (i + (1 : Int)) → (zIn (i + (2 : Int)) ∧ ((0 ≤ (i + (2 : Int)) ∧ (i + (2 : Int)) < m1 2000 (-1 : Int)) ∧ (∀ w4 : Int, zIn w4 → w4 = m1 2000 (i + (2 : Int)) → (1 ≤ d ∧ WPc (d - 1) 213 [zr 386, zi w3, zi w4] 403 [] x1 m1 403 [] (fun q2 x2 m2 => ((q1 = q2 → WP d 281 1525 [(0, zr 2000), (1, zr 0), (2, zr 386), (3, zi i)] [] 403 [] x2 m2 403 [] Q) ∧ (q1 ≠ q2 → (((0 : Int) = 0 ∨ (0 : Int) = 1) ∧ Q 0 x2 m2)))))))))))))))))))) : WP d 281 654 [(0, zr 2000), (1, zr 0), (2, zr 386), (3, zi i)] [] 403 [] x m 403 [] Q := zr0 (md := fun _ => 0) (cu := [(18, [0, 1, 2, 3]), (1525, [0, 1, 2, 3])]) rfl h
set_option maxRecDepth 100000 in
theorem la_12 {d N : Nat} {i : Int} {x m : zM} {Q : Int → zM → zM → Prop} (hd : 90 ≤ d) (hNN : N ≤ 600) (hI : Inv N x m) (hi : 0 ≤ i) (hi2 : i + 4 ≤ m 2000 (-1)) (hL : m 2000 (-1) ≤ 2048) (K : ∀ x' m', Inv (N + 1) x' m' → m' 2000 = m 2000 → WP d 281 1525 [(0, zr 2000), (1, zr 0), (2, zr 386), (3, zi i)] [] 403 [] x' m' 403 [] Q) : WP d 281 654 [(0, zr 2000), (1, zr 0), (2, zr 386), (3, zi i)] [] 403 [] x m 403 [] Q := by
  apply lr_12
  refine ⟨by unfold zIn; omega, ⟨by omega, by omega⟩, fun w1 _ e1 => ?_⟩
  subst e1
  refine ⟨by unfold zIn; omega, ⟨by omega, by omega⟩, fun w2 _ e2 => ?_⟩
  subst e2
  refine ⟨by omega, t_loanOf (dM := d - 1) (by omega) (by omega) hNN hI (fun q1 x1 hok => ?_)⟩
  refine ⟨by unfold zIn; omega, ⟨by omega, by omega⟩, fun w3 _ e3 => ?_⟩
  subst e3
  refine ⟨by unfold zIn; omega, ⟨by omega, by omega⟩, fun w4 _ e4 => ?_⟩
  subst e4
  exact ⟨by omega, hok _ (fun x2 m2 hI2 he => ⟨fun _ => K x2 m2 hI2 he, fun h => absurd rfl h⟩)⟩
set_option maxRecDepth 100000 in
theorem lr_13 {d : Nat} {i : Int} {x m : zM} {Q : Int → zM → zM → Prop} (h : (zIn (i + (1 : Int)) ∧ ((0 ≤ (i + (1 : Int)) ∧ (i + (1 : Int)) < m 2000 (-1 : Int)) ∧ (∀ w1 : Int, zIn w1 → w1 = m 2000 (i + (1 : Int)) → (zIn (i + (2 : Int)) ∧ ((0 ≤ (i + (2 : Int)) ∧ (i + (2 : Int)) < m 2000 (-1 : Int)) ∧ (∀ w2 : Int, zIn w2 → w2 = m 2000 (i + (2 : Int)) → (1 ≤ d ∧ WPc (d - 1) 129 [zr 0, zi w1, zi w2] 403 [] x m 403 [] (fun q1 x1 m1 => (zIn (i + (1 : Int)) ∧ ((0 ≤ (i + (1 : Int)) ∧ (i + (1 : Int)) < m1 2000 (-1 : Int)) ∧ (∀ w3 : Int, zIn w3 → w3 = m1 2000 (i + (1 : Int)) → (zIn (i + (2 : Int)) ∧ ((0 ≤ (i + (2 : Int)) ∧ (i + (2 : Int)) < m1 2000 (-1 : Int)) ∧ (∀ w4 : Int, zIn w4 → w4 = m1 2000 (i + (2 : Int)) → (1 ≤ d ∧ WPc (d - 1) 214 [zr 386, zi w3, zi w4] 403 [] x1 m1 403 [] (fun q2 x2 m2 => ((q1 = q2 → WP d 281 1525 [(0, zr 2000), (1, zr 0), (2, zr 386), (3, zi i)] [] 403 [] x2 m2 403 [] Q) ∧ (q1 ≠ q2 → (((0 : Int) = 0 ∨ (0 : Int) = 1) ∧ Q 0 x2 m2)))))))))))))))))))) : WP d 281 687 [(0, zr 2000), (1, zr 0), (2, zr 386), (3, zi i)] [] 403 [] x m 403 [] Q := zr0 (md := fun _ => 0) (cu := [(18, [0, 1, 2, 3]), (1525, [0, 1, 2, 3])]) rfl h
set_option maxRecDepth 100000 in
theorem la_13 {d N : Nat} {i : Int} {x m : zM} {Q : Int → zM → zM → Prop} (hd : 90 ≤ d) (hNN : N ≤ 600) (hI : Inv N x m) (hi : 0 ≤ i) (hi2 : i + 4 ≤ m 2000 (-1)) (hL : m 2000 (-1) ≤ 2048) (K : ∀ x' m', Inv (N + 1) x' m' → m' 2000 = m 2000 → WP d 281 1525 [(0, zr 2000), (1, zr 0), (2, zr 386), (3, zi i)] [] 403 [] x' m' 403 [] Q) : WP d 281 687 [(0, zr 2000), (1, zr 0), (2, zr 386), (3, zi i)] [] 403 [] x m 403 [] Q := by
  apply lr_13
  refine ⟨by unfold zIn; omega, ⟨by omega, by omega⟩, fun w1 _ e1 => ?_⟩
  subst e1
  refine ⟨by unfold zIn; omega, ⟨by omega, by omega⟩, fun w2 _ e2 => ?_⟩
  subst e2
  refine ⟨by omega, t_dues (dM := d - 1) (by omega) (by omega) hNN hI (fun q1 x1 hok => ?_)⟩
  refine ⟨by unfold zIn; omega, ⟨by omega, by omega⟩, fun w3 _ e3 => ?_⟩
  subst e3
  refine ⟨by unfold zIn; omega, ⟨by omega, by omega⟩, fun w4 _ e4 => ?_⟩
  subst e4
  exact ⟨by omega, hok _ (fun x2 m2 hI2 he => ⟨fun _ => K x2 m2 hI2 he, fun h => absurd rfl h⟩)⟩
set_option maxRecDepth 100000 in
theorem lr_14 {d : Nat} {i : Int} {x m : zM} {Q : Int → zM → zM → Prop} (h : (zIn (i + (1 : Int)) ∧ ((0 ≤ (i + (1 : Int)) ∧ (i + (1 : Int)) < m 2000 (-1 : Int)) ∧ (∀ w1 : Int, zIn w1 → w1 = m 2000 (i + (1 : Int)) → (zIn (i + (2 : Int)) ∧ ((0 ≤ (i + (2 : Int)) ∧ (i + (2 : Int)) < m 2000 (-1 : Int)) ∧ (∀ w2 : Int, zIn w2 → w2 = m 2000 (i + (2 : Int)) → (1 ≤ d ∧ WPc (d - 1) 130 [zr 0, zi w1, zi w2] 403 [] x m 403 [] (fun q1 x1 m1 => (zIn (i + (1 : Int)) ∧ ((0 ≤ (i + (1 : Int)) ∧ (i + (1 : Int)) < m1 2000 (-1 : Int)) ∧ (∀ w3 : Int, zIn w3 → w3 = m1 2000 (i + (1 : Int)) → (zIn (i + (2 : Int)) ∧ ((0 ≤ (i + (2 : Int)) ∧ (i + (2 : Int)) < m1 2000 (-1 : Int)) ∧ (∀ w4 : Int, zIn w4 → w4 = m1 2000 (i + (2 : Int)) → (1 ≤ d ∧ WPc (d - 1) 216 [zr 386, zi w3, zi w4] 403 [] x1 m1 403 [] (fun q2 x2 m2 => ((q1 = q2 → WP d 281 1525 [(0, zr 2000), (1, zr 0), (2, zr 386), (3, zi i)] [] 403 [] x2 m2 403 [] Q) ∧ (q1 ≠ q2 → (((0 : Int) = 0 ∨ (0 : Int) = 1) ∧ Q 0 x2 m2)))))))))))))))))))) : WP d 281 720 [(0, zr 2000), (1, zr 0), (2, zr 386), (3, zi i)] [] 403 [] x m 403 [] Q := zr0 (md := fun _ => 0) (cu := [(18, [0, 1, 2, 3]), (1525, [0, 1, 2, 3])]) rfl h
set_option maxRecDepth 100000 in
theorem la_14 {d N : Nat} {i : Int} {x m : zM} {Q : Int → zM → zM → Prop} (hd : 90 ≤ d) (hNN : N ≤ 600) (hI : Inv N x m) (hi : 0 ≤ i) (hi2 : i + 4 ≤ m 2000 (-1)) (hL : m 2000 (-1) ≤ 2048) (K : ∀ x' m', Inv (N + 1) x' m' → m' 2000 = m 2000 → WP d 281 1525 [(0, zr 2000), (1, zr 0), (2, zr 386), (3, zi i)] [] 403 [] x' m' 403 [] Q) : WP d 281 720 [(0, zr 2000), (1, zr 0), (2, zr 386), (3, zi i)] [] 403 [] x m 403 [] Q := by
  apply lr_14
  refine ⟨by unfold zIn; omega, ⟨by omega, by omega⟩, fun w1 _ e1 => ?_⟩
  subst e1
  refine ⟨by unfold zIn; omega, ⟨by omega, by omega⟩, fun w2 _ e2 => ?_⟩
  subst e2
  refine ⟨by omega, t_taken (dM := d - 1) (by omega) (by omega) hNN hI (fun q1 x1 hok => ?_)⟩
  refine ⟨by unfold zIn; omega, ⟨by omega, by omega⟩, fun w3 _ e3 => ?_⟩
  subst e3
  refine ⟨by unfold zIn; omega, ⟨by omega, by omega⟩, fun w4 _ e4 => ?_⟩
  subst e4
  exact ⟨by omega, hok _ (fun x2 m2 hI2 he => ⟨fun _ => K x2 m2 hI2 he, fun h => absurd rfl h⟩)⟩
set_option maxRecDepth 100000 in
theorem lr_15 {d : Nat} {i : Int} {x m : zM} {Q : Int → zM → zM → Prop} (h : (zIn (i + (1 : Int)) ∧ ((0 ≤ (i + (1 : Int)) ∧ (i + (1 : Int)) < m 2000 (-1 : Int)) ∧ (∀ w1 : Int, zIn w1 → w1 = m 2000 (i + (1 : Int)) → (zIn (i + (2 : Int)) ∧ ((0 ≤ (i + (2 : Int)) ∧ (i + (2 : Int)) < m 2000 (-1 : Int)) ∧ (∀ w2 : Int, zIn w2 → w2 = m 2000 (i + (2 : Int)) → (1 ≤ d ∧ WPc (d - 1) 131 [zr 0, zi w1, zi w2] 403 [] x m 403 [] (fun q1 x1 m1 => (zIn (i + (1 : Int)) ∧ ((0 ≤ (i + (1 : Int)) ∧ (i + (1 : Int)) < m1 2000 (-1 : Int)) ∧ (∀ w3 : Int, zIn w3 → w3 = m1 2000 (i + (1 : Int)) → (zIn (i + (2 : Int)) ∧ ((0 ≤ (i + (2 : Int)) ∧ (i + (2 : Int)) < m1 2000 (-1 : Int)) ∧ (∀ w4 : Int, zIn w4 → w4 = m1 2000 (i + (2 : Int)) → (1 ≤ d ∧ WPc (d - 1) 217 [zr 386, zi w3, zi w4] 403 [] x1 m1 403 [] (fun q2 x2 m2 => ((q1 = q2 → WP d 281 1525 [(0, zr 2000), (1, zr 0), (2, zr 386), (3, zi i)] [] 403 [] x2 m2 403 [] Q) ∧ (q1 ≠ q2 → (((0 : Int) = 0 ∨ (0 : Int) = 1) ∧ Q 0 x2 m2)))))))))))))))))))) : WP d 281 753 [(0, zr 2000), (1, zr 0), (2, zr 386), (3, zi i)] [] 403 [] x m 403 [] Q := zr0 (md := fun _ => 0) (cu := [(18, [0, 1, 2, 3]), (1525, [0, 1, 2, 3])]) rfl h
set_option maxRecDepth 100000 in
theorem la_15 {d N : Nat} {i : Int} {x m : zM} {Q : Int → zM → zM → Prop} (hd : 90 ≤ d) (hNN : N ≤ 600) (hI : Inv N x m) (hi : 0 ≤ i) (hi2 : i + 4 ≤ m 2000 (-1)) (hL : m 2000 (-1) ≤ 2048) (K : ∀ x' m', Inv (N + 1) x' m' → m' 2000 = m 2000 → WP d 281 1525 [(0, zr 2000), (1, zr 0), (2, zr 386), (3, zi i)] [] 403 [] x' m' 403 [] Q) : WP d 281 753 [(0, zr 2000), (1, zr 0), (2, zr 386), (3, zi i)] [] 403 [] x m 403 [] Q := by
  apply lr_15
  refine ⟨by unfold zIn; omega, ⟨by omega, by omega⟩, fun w1 _ e1 => ?_⟩
  subst e1
  refine ⟨by unfold zIn; omega, ⟨by omega, by omega⟩, fun w2 _ e2 => ?_⟩
  subst e2
  refine ⟨by omega, t_alike (dM := d - 1) (by omega) (by omega) hNN hI (fun q1 x1 hok => ?_)⟩
  refine ⟨by unfold zIn; omega, ⟨by omega, by omega⟩, fun w3 _ e3 => ?_⟩
  subst e3
  refine ⟨by unfold zIn; omega, ⟨by omega, by omega⟩, fun w4 _ e4 => ?_⟩
  subst e4
  exact ⟨by omega, hok _ (fun x2 m2 hI2 he => ⟨fun _ => K x2 m2 hI2 he, fun h => absurd rfl h⟩)⟩
set_option maxRecDepth 100000 in
theorem lr_16 {d : Nat} {i : Int} {x m : zM} {Q : Int → zM → zM → Prop} (h : (zIn (i + (1 : Int)) ∧ ((0 ≤ (i + (1 : Int)) ∧ (i + (1 : Int)) < m 2000 (-1 : Int)) ∧ (∀ w1 : Int, zIn w1 → w1 = m 2000 (i + (1 : Int)) → (zIn (i + (2 : Int)) ∧ ((0 ≤ (i + (2 : Int)) ∧ (i + (2 : Int)) < m 2000 (-1 : Int)) ∧ (∀ w2 : Int, zIn w2 → w2 = m 2000 (i + (2 : Int)) → (1 ≤ d ∧ WPc (d - 1) 132 [zr 0, zi w1, zi w2] 403 [] x m 403 [] (fun q1 x1 m1 => (zIn (i + (1 : Int)) ∧ ((0 ≤ (i + (1 : Int)) ∧ (i + (1 : Int)) < m1 2000 (-1 : Int)) ∧ (∀ w3 : Int, zIn w3 → w3 = m1 2000 (i + (1 : Int)) → (zIn (i + (2 : Int)) ∧ ((0 ≤ (i + (2 : Int)) ∧ (i + (2 : Int)) < m1 2000 (-1 : Int)) ∧ (∀ w4 : Int, zIn w4 → w4 = m1 2000 (i + (2 : Int)) → (1 ≤ d ∧ WPc (d - 1) 218 [zr 386, zi w3, zi w4] 403 [] x1 m1 403 [] (fun q2 x2 m2 => ((q1 = q2 → WP d 281 1525 [(0, zr 2000), (1, zr 0), (2, zr 386), (3, zi i)] [] 403 [] x2 m2 403 [] Q) ∧ (q1 ≠ q2 → (((0 : Int) = 0 ∨ (0 : Int) = 1) ∧ Q 0 x2 m2)))))))))))))))))))) : WP d 281 786 [(0, zr 2000), (1, zr 0), (2, zr 386), (3, zi i)] [] 403 [] x m 403 [] Q := zr0 (md := fun _ => 0) (cu := [(18, [0, 1, 2, 3]), (1525, [0, 1, 2, 3])]) rfl h
set_option maxRecDepth 100000 in
theorem la_16 {d N : Nat} {i : Int} {x m : zM} {Q : Int → zM → zM → Prop} (hd : 90 ≤ d) (hNN : N ≤ 600) (hI : Inv N x m) (hi : 0 ≤ i) (hi2 : i + 4 ≤ m 2000 (-1)) (hL : m 2000 (-1) ≤ 2048) (K : ∀ x' m', Inv (N + 1) x' m' → m' 2000 = m 2000 → WP d 281 1525 [(0, zr 2000), (1, zr 0), (2, zr 386), (3, zi i)] [] 403 [] x' m' 403 [] Q) : WP d 281 786 [(0, zr 2000), (1, zr 0), (2, zr 386), (3, zi i)] [] 403 [] x m 403 [] Q := by
  apply lr_16
  refine ⟨by unfold zIn; omega, ⟨by omega, by omega⟩, fun w1 _ e1 => ?_⟩
  subst e1
  refine ⟨by unfold zIn; omega, ⟨by omega, by omega⟩, fun w2 _ e2 => ?_⟩
  subst e2
  refine ⟨by omega, t_feed (dM := d - 1) (by omega) (by omega) hNN hI (fun q1 x1 hok => ?_)⟩
  refine ⟨by unfold zIn; omega, ⟨by omega, by omega⟩, fun w3 _ e3 => ?_⟩
  subst e3
  refine ⟨by unfold zIn; omega, ⟨by omega, by omega⟩, fun w4 _ e4 => ?_⟩
  subst e4
  exact ⟨by omega, hok _ (fun x2 m2 hI2 he => ⟨fun _ => K x2 m2 hI2 he, fun h => absurd rfl h⟩)⟩
set_option maxRecDepth 100000 in
theorem lr_17 {d : Nat} {i : Int} {x m : zM} {Q : Int → zM → zM → Prop} (h : (1 ≤ d ∧ WPc (d - 1) 133 [zr 0] 403 [] x m 403 [] (fun q1 x1 m1 => (1 ≤ d ∧ WPc (d - 1) 219 [zr 386] 403 [] x1 m1 403 [] (fun q2 x2 m2 => ((q1 = q2 → WP d 281 1525 [(0, zr 2000), (1, zr 0), (2, zr 386), (3, zi i)] [] 403 [] x2 m2 403 [] Q) ∧ (q1 ≠ q2 → (((0 : Int) = 0 ∨ (0 : Int) = 1) ∧ Q 0 x2 m2)))))))) : WP d 281 819 [(0, zr 2000), (1, zr 0), (2, zr 386), (3, zi i)] [] 403 [] x m 403 [] Q := zr0 (md := fun _ => 0) (cu := [(18, [0, 1, 2, 3]), (1525, [0, 1, 2, 3])]) rfl h
set_option maxRecDepth 100000 in
theorem la_17 {d N : Nat} {i : Int} {x m : zM} {Q : Int → zM → zM → Prop} (hd : 90 ≤ d) (hNN : N ≤ 600) (hI : Inv N x m) (hi : 0 ≤ i) (hi2 : i + 4 ≤ m 2000 (-1)) (hL : m 2000 (-1) ≤ 2048) (K : ∀ x' m', Inv (N + 1) x' m' → m' 2000 = m 2000 → WP d 281 1525 [(0, zr 2000), (1, zr 0), (2, zr 386), (3, zi i)] [] 403 [] x' m' 403 [] Q) : WP d 281 819 [(0, zr 2000), (1, zr 0), (2, zr 386), (3, zi i)] [] 403 [] x m 403 [] Q := by
  apply lr_17
  refine ⟨by omega, t_wipe (dM := d - 1) (by omega) (by omega) hNN hI (fun q1 x1 hok => ?_)⟩
  exact ⟨by omega, hok _ (fun x2 m2 hI2 he => ⟨fun _ => K x2 m2 hI2 he, fun h => absurd rfl h⟩)⟩
set_option maxRecDepth 100000 in
theorem lr_18 {d : Nat} {i : Int} {x m : zM} {Q : Int → zM → zM → Prop} (h : (zIn (i + (1 : Int)) ∧ ((0 ≤ (i + (1 : Int)) ∧ (i + (1 : Int)) < m 2000 (-1 : Int)) ∧ (∀ w1 : Int, zIn w1 → w1 = m 2000 (i + (1 : Int)) → (zIn (i + (2 : Int)) ∧ ((0 ≤ (i + (2 : Int)) ∧ (i + (2 : Int)) < m 2000 (-1 : Int)) ∧ (∀ w2 : Int, zIn w2 → w2 = m 2000 (i + (2 : Int)) → (1 ≤ d ∧ WPc (d - 1) 134 [zr 0, zi w1, zi w2] 403 [] x m 403 [] (fun q1 x1 m1 => (zIn (i + (1 : Int)) ∧ ((0 ≤ (i + (1 : Int)) ∧ (i + (1 : Int)) < m1 2000 (-1 : Int)) ∧ (∀ w3 : Int, zIn w3 → w3 = m1 2000 (i + (1 : Int)) → (zIn (i + (2 : Int)) ∧ ((0 ≤ (i + (2 : Int)) ∧ (i + (2 : Int)) < m1 2000 (-1 : Int)) ∧ (∀ w4 : Int, zIn w4 → w4 = m1 2000 (i + (2 : Int)) → (1 ≤ d ∧ WPc (d - 1) 231 [zr 386, zi w3, zi w4] 403 [] x1 m1 403 [] (fun q2 x2 m2 => ((q1 = q2 → WP d 281 1525 [(0, zr 2000), (1, zr 0), (2, zr 386), (3, zi i)] [] 403 [] x2 m2 403 [] Q) ∧ (q1 ≠ q2 → (((0 : Int) = 0 ∨ (0 : Int) = 1) ∧ Q 0 x2 m2)))))))))))))))))))) : WP d 281 832 [(0, zr 2000), (1, zr 0), (2, zr 386), (3, zi i)] [] 403 [] x m 403 [] Q := zr0 (md := fun _ => 0) (cu := [(18, [0, 1, 2, 3]), (1525, [0, 1, 2, 3])]) rfl h
set_option maxRecDepth 100000 in
theorem la_18 {d N : Nat} {i : Int} {x m : zM} {Q : Int → zM → zM → Prop} (hd : 90 ≤ d) (hNN : N ≤ 600) (hI : Inv N x m) (hi : 0 ≤ i) (hi2 : i + 4 ≤ m 2000 (-1)) (hL : m 2000 (-1) ≤ 2048) (K : ∀ x' m', Inv (N + 1) x' m' → m' 2000 = m 2000 → WP d 281 1525 [(0, zr 2000), (1, zr 0), (2, zr 386), (3, zi i)] [] 403 [] x' m' 403 [] Q) : WP d 281 832 [(0, zr 2000), (1, zr 0), (2, zr 386), (3, zi i)] [] 403 [] x m 403 [] Q := by
  apply lr_18
  refine ⟨by unfold zIn; omega, ⟨by omega, by omega⟩, fun w1 _ e1 => ?_⟩
  subst e1
  refine ⟨by unfold zIn; omega, ⟨by omega, by omega⟩, fun w2 _ e2 => ?_⟩
  subst e2
  refine ⟨by omega, t_rule (dM := d - 1) (by omega) (by omega) hNN hI (fun q1 x1 hok => ?_)⟩
  refine ⟨by unfold zIn; omega, ⟨by omega, by omega⟩, fun w3 _ e3 => ?_⟩
  subst e3
  refine ⟨by unfold zIn; omega, ⟨by omega, by omega⟩, fun w4 _ e4 => ?_⟩
  subst e4
  exact ⟨by omega, hok _ (fun x2 m2 hI2 he => ⟨fun _ => K x2 m2 hI2 he, fun h => absurd rfl h⟩)⟩
set_option maxRecDepth 100000 in
theorem lr_19 {d : Nat} {i : Int} {x m : zM} {Q : Int → zM → zM → Prop} (h : (zIn (i + (1 : Int)) ∧ ((0 ≤ (i + (1 : Int)) ∧ (i + (1 : Int)) < m 2000 (-1 : Int)) ∧ (∀ w1 : Int, zIn w1 → w1 = m 2000 (i + (1 : Int)) → (zIn (i + (2 : Int)) ∧ ((0 ≤ (i + (2 : Int)) ∧ (i + (2 : Int)) < m 2000 (-1 : Int)) ∧ (∀ w2 : Int, zIn w2 → w2 = m 2000 (i + (2 : Int)) → (1 ≤ d ∧ WPc (d - 1) 135 [zr 0, zi w1, zi w2] 403 [] x m 403 [] (fun q1 x1 m1 => (zIn (i + (1 : Int)) ∧ ((0 ≤ (i + (1 : Int)) ∧ (i + (1 : Int)) < m1 2000 (-1 : Int)) ∧ (∀ w3 : Int, zIn w3 → w3 = m1 2000 (i + (1 : Int)) → (zIn (i + (2 : Int)) ∧ ((0 ≤ (i + (2 : Int)) ∧ (i + (2 : Int)) < m1 2000 (-1 : Int)) ∧ (∀ w4 : Int, zIn w4 → w4 = m1 2000 (i + (2 : Int)) → (1 ≤ d ∧ WPc (d - 1) 237 [zr 386, zi w3, zi w4] 403 [] x1 m1 403 [] (fun q2 x2 m2 => ((q1 = q2 → WP d 281 1525 [(0, zr 2000), (1, zr 0), (2, zr 386), (3, zi i)] [] 403 [] x2 m2 403 [] Q) ∧ (q1 ≠ q2 → (((0 : Int) = 0 ∨ (0 : Int) = 1) ∧ Q 0 x2 m2)))))))))))))))))))) : WP d 281 865 [(0, zr 2000), (1, zr 0), (2, zr 386), (3, zi i)] [] 403 [] x m 403 [] Q := zr0 (md := fun _ => 0) (cu := [(18, [0, 1, 2, 3]), (1525, [0, 1, 2, 3])]) rfl h
set_option maxRecDepth 100000 in
theorem la_19 {d N : Nat} {i : Int} {x m : zM} {Q : Int → zM → zM → Prop} (hd : 90 ≤ d) (hNN : N ≤ 600) (hI : Inv N x m) (hi : 0 ≤ i) (hi2 : i + 4 ≤ m 2000 (-1)) (hL : m 2000 (-1) ≤ 2048) (K : ∀ x' m', Inv (N + 1) x' m' → m' 2000 = m 2000 → WP d 281 1525 [(0, zr 2000), (1, zr 0), (2, zr 386), (3, zi i)] [] 403 [] x' m' 403 [] Q) : WP d 281 865 [(0, zr 2000), (1, zr 0), (2, zr 386), (3, zi i)] [] 403 [] x m 403 [] Q := by
  apply lr_19
  refine ⟨by unfold zIn; omega, ⟨by omega, by omega⟩, fun w1 _ e1 => ?_⟩
  subst e1
  refine ⟨by unfold zIn; omega, ⟨by omega, by omega⟩, fun w2 _ e2 => ?_⟩
  subst e2
  refine ⟨by omega, t_says (dM := d - 1) (by omega) (by omega) hNN hI (fun q1 x1 hok => ?_)⟩
  refine ⟨by unfold zIn; omega, ⟨by omega, by omega⟩, fun w3 _ e3 => ?_⟩
  subst e3
  refine ⟨by unfold zIn; omega, ⟨by omega, by omega⟩, fun w4 _ e4 => ?_⟩
  subst e4
  exact ⟨by omega, hok _ (fun x2 m2 hI2 he => ⟨fun _ => K x2 m2 hI2 he, fun h => absurd rfl h⟩)⟩
set_option maxRecDepth 100000 in
theorem lr_20 {d : Nat} {i : Int} {x m : zM} {Q : Int → zM → zM → Prop} (h : (zIn (i + (1 : Int)) ∧ ((0 ≤ (i + (1 : Int)) ∧ (i + (1 : Int)) < m 2000 (-1 : Int)) ∧ (∀ w1 : Int, zIn w1 → w1 = m 2000 (i + (1 : Int)) → (zIn (i + (2 : Int)) ∧ ((0 ≤ (i + (2 : Int)) ∧ (i + (2 : Int)) < m 2000 (-1 : Int)) ∧ (∀ w2 : Int, zIn w2 → w2 = m 2000 (i + (2 : Int)) → (1 ≤ d ∧ WPc (d - 1) 136 [zr 0, zi w1, zi w2] 403 [] x m 403 [] (fun q1 x1 m1 => (zIn (i + (1 : Int)) ∧ ((0 ≤ (i + (1 : Int)) ∧ (i + (1 : Int)) < m1 2000 (-1 : Int)) ∧ (∀ w3 : Int, zIn w3 → w3 = m1 2000 (i + (1 : Int)) → (zIn (i + (2 : Int)) ∧ ((0 ≤ (i + (2 : Int)) ∧ (i + (2 : Int)) < m1 2000 (-1 : Int)) ∧ (∀ w4 : Int, zIn w4 → w4 = m1 2000 (i + (2 : Int)) → (1 ≤ d ∧ WPc (d - 1) 238 [zr 386, zi w3, zi w4] 403 [] x1 m1 403 [] (fun q2 x2 m2 => ((q1 = q2 → WP d 281 1525 [(0, zr 2000), (1, zr 0), (2, zr 386), (3, zi i)] [] 403 [] x2 m2 403 [] Q) ∧ (q1 ≠ q2 → (((0 : Int) = 0 ∨ (0 : Int) = 1) ∧ Q 0 x2 m2)))))))))))))))))))) : WP d 281 898 [(0, zr 2000), (1, zr 0), (2, zr 386), (3, zi i)] [] 403 [] x m 403 [] Q := zr0 (md := fun _ => 0) (cu := [(18, [0, 1, 2, 3]), (1525, [0, 1, 2, 3])]) rfl h
set_option maxRecDepth 100000 in
theorem la_20 {d N : Nat} {i : Int} {x m : zM} {Q : Int → zM → zM → Prop} (hd : 90 ≤ d) (hNN : N ≤ 600) (hI : Inv N x m) (hi : 0 ≤ i) (hi2 : i + 4 ≤ m 2000 (-1)) (hL : m 2000 (-1) ≤ 2048) (K : ∀ x' m', Inv (N + 1) x' m' → m' 2000 = m 2000 → WP d 281 1525 [(0, zr 2000), (1, zr 0), (2, zr 386), (3, zi i)] [] 403 [] x' m' 403 [] Q) : WP d 281 898 [(0, zr 2000), (1, zr 0), (2, zr 386), (3, zi i)] [] 403 [] x m 403 [] Q := by
  apply lr_20
  refine ⟨by unfold zIn; omega, ⟨by omega, by omega⟩, fun w1 _ e1 => ?_⟩
  subst e1
  refine ⟨by unfold zIn; omega, ⟨by omega, by omega⟩, fun w2 _ e2 => ?_⟩
  subst e2
  refine ⟨by omega, t_why (dM := d - 1) (by omega) (by omega) hNN hI (fun q1 x1 hok => ?_)⟩
  refine ⟨by unfold zIn; omega, ⟨by omega, by omega⟩, fun w3 _ e3 => ?_⟩
  subst e3
  refine ⟨by unfold zIn; omega, ⟨by omega, by omega⟩, fun w4 _ e4 => ?_⟩
  subst e4
  exact ⟨by omega, hok _ (fun x2 m2 hI2 he => ⟨fun _ => K x2 m2 hI2 he, fun h => absurd rfl h⟩)⟩
set_option maxRecDepth 100000 in
theorem lr_21 {d : Nat} {i : Int} {x m : zM} {Q : Int → zM → zM → Prop} (h : (zIn (i + (1 : Int)) ∧ ((0 ≤ (i + (1 : Int)) ∧ (i + (1 : Int)) < m 2000 (-1 : Int)) ∧ (∀ w1 : Int, zIn w1 → w1 = m 2000 (i + (1 : Int)) → (1 ≤ d ∧ WPc (d - 1) 137 [zr 0, zi w1] 403 [] x m 403 [] (fun q1 x1 m1 => (zIn (i + (1 : Int)) ∧ ((0 ≤ (i + (1 : Int)) ∧ (i + (1 : Int)) < m1 2000 (-1 : Int)) ∧ (∀ w2 : Int, zIn w2 → w2 = m1 2000 (i + (1 : Int)) → (1 ≤ d ∧ WPc (d - 1) 247 [zr 386, zi w2] 403 [] x1 m1 403 [] (fun q2 x2 m2 => ((q1 = q2 → WP d 281 1525 [(0, zr 2000), (1, zr 0), (2, zr 386), (3, zi i)] [] 403 [] x2 m2 403 [] Q) ∧ (q1 ≠ q2 → (((0 : Int) = 0 ∨ (0 : Int) = 1) ∧ Q 0 x2 m2)))))))))))))) : WP d 281 931 [(0, zr 2000), (1, zr 0), (2, zr 386), (3, zi i)] [] 403 [] x m 403 [] Q := zr0 (md := fun _ => 0) (cu := [(18, [0, 1, 2, 3]), (1525, [0, 1, 2, 3])]) rfl h
set_option maxRecDepth 100000 in
theorem la_21 {d N : Nat} {i : Int} {x m : zM} {Q : Int → zM → zM → Prop} (hd : 90 ≤ d) (hNN : N ≤ 600) (hI : Inv N x m) (hi : 0 ≤ i) (hi2 : i + 4 ≤ m 2000 (-1)) (hL : m 2000 (-1) ≤ 2048) (K : ∀ x' m', Inv (N + 1) x' m' → m' 2000 = m 2000 → WP d 281 1525 [(0, zr 2000), (1, zr 0), (2, zr 386), (3, zi i)] [] 403 [] x' m' 403 [] Q) : WP d 281 931 [(0, zr 2000), (1, zr 0), (2, zr 386), (3, zi i)] [] 403 [] x m 403 [] Q := by
  apply lr_21
  refine ⟨by unfold zIn; omega, ⟨by omega, by omega⟩, fun w1 _ e1 => ?_⟩
  subst e1
  refine ⟨by omega, t_run (dM := d - 1) (by omega) (by omega) hNN hI (fun q1 x1 hok => ?_)⟩
  refine ⟨by unfold zIn; omega, ⟨by omega, by omega⟩, fun w2 _ e2 => ?_⟩
  subst e2
  exact ⟨by omega, hok _ (fun x2 m2 hI2 he => ⟨fun _ => K x2 m2 hI2 he, fun h => absurd rfl h⟩)⟩
set_option maxRecDepth 100000 in
theorem lr_22 {d : Nat} {i : Int} {x m : zM} {Q : Int → zM → zM → Prop} (h : (zIn (i + (1 : Int)) ∧ ((0 ≤ (i + (1 : Int)) ∧ (i + (1 : Int)) < m 2000 (-1 : Int)) ∧ (∀ w1 : Int, zIn w1 → w1 = m 2000 (i + (1 : Int)) → (1 ≤ d ∧ WPc (d - 1) 138 [zr 0, zi w1] 403 [] x m 403 [] (fun q1 x1 m1 => (zIn (i + (1 : Int)) ∧ ((0 ≤ (i + (1 : Int)) ∧ (i + (1 : Int)) < m1 2000 (-1 : Int)) ∧ (∀ w2 : Int, zIn w2 → w2 = m1 2000 (i + (1 : Int)) → (1 ≤ d ∧ WPc (d - 1) 248 [zr 386, zi w2] 403 [] x1 m1 403 [] (fun q2 x2 m2 => ((q1 = q2 → WP d 281 1525 [(0, zr 2000), (1, zr 0), (2, zr 386), (3, zi i)] [] 403 [] x2 m2 403 [] Q) ∧ (q1 ≠ q2 → (((0 : Int) = 0 ∨ (0 : Int) = 1) ∧ Q 0 x2 m2)))))))))))))) : WP d 281 954 [(0, zr 2000), (1, zr 0), (2, zr 386), (3, zi i)] [] 403 [] x m 403 [] Q := zr0 (md := fun _ => 0) (cu := [(18, [0, 1, 2, 3]), (1525, [0, 1, 2, 3])]) rfl h
set_option maxRecDepth 100000 in
theorem la_22 {d N : Nat} {i : Int} {x m : zM} {Q : Int → zM → zM → Prop} (hd : 90 ≤ d) (hNN : N ≤ 600) (hI : Inv N x m) (hi : 0 ≤ i) (hi2 : i + 4 ≤ m 2000 (-1)) (hL : m 2000 (-1) ≤ 2048) (K : ∀ x' m', Inv (N + 1) x' m' → m' 2000 = m 2000 → WP d 281 1525 [(0, zr 2000), (1, zr 0), (2, zr 386), (3, zi i)] [] 403 [] x' m' 403 [] Q) : WP d 281 954 [(0, zr 2000), (1, zr 0), (2, zr 386), (3, zi i)] [] 403 [] x m 403 [] Q := by
  apply lr_22
  refine ⟨by unfold zIn; omega, ⟨by omega, by omega⟩, fun w1 _ e1 => ?_⟩
  subst e1
  refine ⟨by omega, t_cost (dM := d - 1) (by omega) (by omega) hNN hI (fun q1 x1 hok => ?_)⟩
  refine ⟨by unfold zIn; omega, ⟨by omega, by omega⟩, fun w2 _ e2 => ?_⟩
  subst e2
  exact ⟨by omega, hok _ (fun x2 m2 hI2 he => ⟨fun _ => K x2 m2 hI2 he, fun h => absurd rfl h⟩)⟩
set_option maxRecDepth 100000 in
theorem lr_23 {d : Nat} {i : Int} {x m : zM} {Q : Int → zM → zM → Prop} (h : (zIn (i + (1 : Int)) ∧ ((0 ≤ (i + (1 : Int)) ∧ (i + (1 : Int)) < m 2000 (-1 : Int)) ∧ (∀ w1 : Int, zIn w1 → w1 = m 2000 (i + (1 : Int)) → (zIn (i + (2 : Int)) ∧ ((0 ≤ (i + (2 : Int)) ∧ (i + (2 : Int)) < m 2000 (-1 : Int)) ∧ (∀ w2 : Int, zIn w2 → w2 = m 2000 (i + (2 : Int)) → (1 ≤ d ∧ WPc (d - 1) 139 [zr 0, zi w1, zi w2] 403 [] x m 403 [] (fun q1 x1 m1 => (zIn (i + (1 : Int)) ∧ ((0 ≤ (i + (1 : Int)) ∧ (i + (1 : Int)) < m1 2000 (-1 : Int)) ∧ (∀ w3 : Int, zIn w3 → w3 = m1 2000 (i + (1 : Int)) → (zIn (i + (2 : Int)) ∧ ((0 ≤ (i + (2 : Int)) ∧ (i + (2 : Int)) < m1 2000 (-1 : Int)) ∧ (∀ w4 : Int, zIn w4 → w4 = m1 2000 (i + (2 : Int)) → (1 ≤ d ∧ WPc (d - 1) 250 [zr 386, zi w3, zi w4] 403 [] x1 m1 403 [] (fun q2 x2 m2 => ((q1 = q2 → WP d 281 1525 [(0, zr 2000), (1, zr 0), (2, zr 386), (3, zi i)] [] 403 [] x2 m2 403 [] Q) ∧ (q1 ≠ q2 → (((0 : Int) = 0 ∨ (0 : Int) = 1) ∧ Q 0 x2 m2)))))))))))))))))))) : WP d 281 977 [(0, zr 2000), (1, zr 0), (2, zr 386), (3, zi i)] [] 403 [] x m 403 [] Q := zr0 (md := fun _ => 0) (cu := [(18, [0, 1, 2, 3]), (1525, [0, 1, 2, 3])]) rfl h
set_option maxRecDepth 100000 in
theorem la_23 {d N : Nat} {i : Int} {x m : zM} {Q : Int → zM → zM → Prop} (hd : 90 ≤ d) (hNN : N ≤ 600) (hI : Inv N x m) (hi : 0 ≤ i) (hi2 : i + 4 ≤ m 2000 (-1)) (hL : m 2000 (-1) ≤ 2048) (K : ∀ x' m', Inv (N + 1) x' m' → m' 2000 = m 2000 → WP d 281 1525 [(0, zr 2000), (1, zr 0), (2, zr 386), (3, zi i)] [] 403 [] x' m' 403 [] Q) : WP d 281 977 [(0, zr 2000), (1, zr 0), (2, zr 386), (3, zi i)] [] 403 [] x m 403 [] Q := by
  apply lr_23
  refine ⟨by unfold zIn; omega, ⟨by omega, by omega⟩, fun w1 _ e1 => ?_⟩
  subst e1
  refine ⟨by unfold zIn; omega, ⟨by omega, by omega⟩, fun w2 _ e2 => ?_⟩
  subst e2
  refine ⟨by omega, t_year (dM := d - 1) (by omega) (by omega) hNN hI (fun q1 x1 hok => ?_)⟩
  refine ⟨by unfold zIn; omega, ⟨by omega, by omega⟩, fun w3 _ e3 => ?_⟩
  subst e3
  refine ⟨by unfold zIn; omega, ⟨by omega, by omega⟩, fun w4 _ e4 => ?_⟩
  subst e4
  exact ⟨by omega, hok _ (fun x2 m2 hI2 he => ⟨fun _ => K x2 m2 hI2 he, fun h => absurd rfl h⟩)⟩
set_option maxRecDepth 100000 in
theorem lr_24 {d : Nat} {i : Int} {x m : zM} {Q : Int → zM → zM → Prop} (h : (zIn (i + (1 : Int)) ∧ ((0 ≤ (i + (1 : Int)) ∧ (i + (1 : Int)) < m 2000 (-1 : Int)) ∧ (∀ w1 : Int, zIn w1 → w1 = m 2000 (i + (1 : Int)) → (zIn (i + (2 : Int)) ∧ ((0 ≤ (i + (2 : Int)) ∧ (i + (2 : Int)) < m 2000 (-1 : Int)) ∧ (∀ w2 : Int, zIn w2 → w2 = m 2000 (i + (2 : Int)) → (zIn (i + (3 : Int)) ∧ ((0 ≤ (i + (3 : Int)) ∧ (i + (3 : Int)) < m 2000 (-1 : Int)) ∧ (∀ w3 : Int, zIn w3 → w3 = m 2000 (i + (3 : Int)) → (1 ≤ d ∧ WPc (d - 1) 140 [zr 0, zi w1, zi w2, zi w3] 403 [] x m 403 [] (fun q1 x1 m1 => (zIn (i + (1 : Int)) ∧ ((0 ≤ (i + (1 : Int)) ∧ (i + (1 : Int)) < m1 2000 (-1 : Int)) ∧ (∀ w4 : Int, zIn w4 → w4 = m1 2000 (i + (1 : Int)) → (zIn (i + (2 : Int)) ∧ ((0 ≤ (i + (2 : Int)) ∧ (i + (2 : Int)) < m1 2000 (-1 : Int)) ∧ (∀ w5 : Int, zIn w5 → w5 = m1 2000 (i + (2 : Int)) → (zIn (i + (3 : Int)) ∧ ((0 ≤ (i + (3 : Int)) ∧ (i + (3 : Int)) < m1 2000 (-1 : Int)) ∧ (∀ w6 : Int, zIn w6 → w6 = m1 2000 (i + (3 : Int)) → (1 ≤ d ∧ WPc (d - 1) 252 [zr 386, zi w4, zi w5, zi w6] 403 [] x1 m1 403 [] (fun q2 x2 m2 => ((q1 = q2 → WP d 281 1525 [(0, zr 2000), (1, zr 0), (2, zr 386), (3, zi i)] [] 403 [] x2 m2 403 [] Q) ∧ (q1 ≠ q2 → (((0 : Int) = 0 ∨ (0 : Int) = 1) ∧ Q 0 x2 m2)))))))))))))))))))))))))) : WP d 281 1011 [(0, zr 2000), (1, zr 0), (2, zr 386), (3, zi i)] [] 403 [] x m 403 [] Q := zr0 (md := fun _ => 0) (cu := [(18, [0, 1, 2, 3]), (1525, [0, 1, 2, 3])]) rfl h
set_option maxRecDepth 100000 in
theorem la_24 {d N : Nat} {i : Int} {x m : zM} {Q : Int → zM → zM → Prop} (hd : 90 ≤ d) (hNN : N ≤ 600) (hI : Inv N x m) (hi : 0 ≤ i) (hi2 : i + 4 ≤ m 2000 (-1)) (hL : m 2000 (-1) ≤ 2048) (K : ∀ x' m', Inv (N + 1) x' m' → m' 2000 = m 2000 → WP d 281 1525 [(0, zr 2000), (1, zr 0), (2, zr 386), (3, zi i)] [] 403 [] x' m' 403 [] Q) : WP d 281 1011 [(0, zr 2000), (1, zr 0), (2, zr 386), (3, zi i)] [] 403 [] x m 403 [] Q := by
  apply lr_24
  refine ⟨by unfold zIn; omega, ⟨by omega, by omega⟩, fun w1 _ e1 => ?_⟩
  subst e1
  refine ⟨by unfold zIn; omega, ⟨by omega, by omega⟩, fun w2 _ e2 => ?_⟩
  subst e2
  refine ⟨by unfold zIn; omega, ⟨by omega, by omega⟩, fun w3 _ e3 => ?_⟩
  subst e3
  refine ⟨by omega, t_got (dM := d - 1) (by omega) (by omega) hNN hI (fun q1 x1 hok => ?_)⟩
  refine ⟨by unfold zIn; omega, ⟨by omega, by omega⟩, fun w4 _ e4 => ?_⟩
  subst e4
  refine ⟨by unfold zIn; omega, ⟨by omega, by omega⟩, fun w5 _ e5 => ?_⟩
  subst e5
  refine ⟨by unfold zIn; omega, ⟨by omega, by omega⟩, fun w6 _ e6 => ?_⟩
  subst e6
  exact ⟨by omega, hok _ (fun x2 m2 hI2 he => ⟨fun _ => K x2 m2 hI2 he, fun h => absurd rfl h⟩)⟩
set_option maxRecDepth 100000 in
theorem lr_25 {d : Nat} {i : Int} {x m : zM} {Q : Int → zM → zM → Prop} (h : (1 ≤ d ∧ WPc (d - 1) 141 [zr 0] 403 [] x m 403 [] (fun q1 x1 m1 => (1 ≤ d ∧ WPc (d - 1) 253 [zr 386] 403 [] x1 m1 403 [] (fun q2 x2 m2 => ((q1 = q2 → WP d 281 1525 [(0, zr 2000), (1, zr 0), (2, zr 386), (3, zi i)] [] 403 [] x2 m2 403 [] Q) ∧ (q1 ≠ q2 → (((0 : Int) = 0 ∨ (0 : Int) = 1) ∧ Q 0 x2 m2)))))))) : WP d 281 1055 [(0, zr 2000), (1, zr 0), (2, zr 386), (3, zi i)] [] 403 [] x m 403 [] Q := zr0 (md := fun _ => 0) (cu := [(18, [0, 1, 2, 3]), (1525, [0, 1, 2, 3])]) rfl h
set_option maxRecDepth 100000 in
theorem la_25 {d N : Nat} {i : Int} {x m : zM} {Q : Int → zM → zM → Prop} (hd : 90 ≤ d) (hNN : N ≤ 600) (hI : Inv N x m) (hi : 0 ≤ i) (hi2 : i + 4 ≤ m 2000 (-1)) (hL : m 2000 (-1) ≤ 2048) (K : ∀ x' m', Inv (N + 1) x' m' → m' 2000 = m 2000 → WP d 281 1525 [(0, zr 2000), (1, zr 0), (2, zr 386), (3, zi i)] [] 403 [] x' m' 403 [] Q) : WP d 281 1055 [(0, zr 2000), (1, zr 0), (2, zr 386), (3, zi i)] [] 403 [] x m 403 [] Q := by
  apply lr_25
  refine ⟨by omega, t_voided (dM := d - 1) (by omega) (by omega) hNN hI (fun q1 x1 hok => ?_)⟩
  exact ⟨by omega, hok _ (fun x2 m2 hI2 he => ⟨fun _ => K x2 m2 hI2 he, fun h => absurd rfl h⟩)⟩
set_option maxRecDepth 100000 in
theorem lr_26 {d : Nat} {i : Int} {x m : zM} {Q : Int → zM → zM → Prop} (h : (zIn (i + (1 : Int)) ∧ ((0 ≤ (i + (1 : Int)) ∧ (i + (1 : Int)) < m 2000 (-1 : Int)) ∧ (∀ w1 : Int, zIn w1 → w1 = m 2000 (i + (1 : Int)) → (zIn (i + (2 : Int)) ∧ ((0 ≤ (i + (2 : Int)) ∧ (i + (2 : Int)) < m 2000 (-1 : Int)) ∧ (∀ w2 : Int, zIn w2 → w2 = m 2000 (i + (2 : Int)) → (zIn (i + (3 : Int)) ∧ ((0 ≤ (i + (3 : Int)) ∧ (i + (3 : Int)) < m 2000 (-1 : Int)) ∧ (∀ w3 : Int, zIn w3 → w3 = m 2000 (i + (3 : Int)) → (1 ≤ d ∧ WPc (d - 1) 142 [zr 0, zi w1, zi w2, zi w3] 403 [] x m 403 [] (fun q1 x1 m1 => (zIn (i + (1 : Int)) ∧ ((0 ≤ (i + (1 : Int)) ∧ (i + (1 : Int)) < m1 2000 (-1 : Int)) ∧ (∀ w4 : Int, zIn w4 → w4 = m1 2000 (i + (1 : Int)) → (zIn (i + (2 : Int)) ∧ ((0 ≤ (i + (2 : Int)) ∧ (i + (2 : Int)) < m1 2000 (-1 : Int)) ∧ (∀ w5 : Int, zIn w5 → w5 = m1 2000 (i + (2 : Int)) → (zIn (i + (3 : Int)) ∧ ((0 ≤ (i + (3 : Int)) ∧ (i + (3 : Int)) < m1 2000 (-1 : Int)) ∧ (∀ w6 : Int, zIn w6 → w6 = m1 2000 (i + (3 : Int)) → (1 ≤ d ∧ WPc (d - 1) 254 [zr 386, zi w4, zi w5, zi w6] 403 [] x1 m1 403 [] (fun q2 x2 m2 => ((q1 = q2 → WP d 281 1525 [(0, zr 2000), (1, zr 0), (2, zr 386), (3, zi i)] [] 403 [] x2 m2 403 [] Q) ∧ (q1 ≠ q2 → (((0 : Int) = 0 ∨ (0 : Int) = 1) ∧ Q 0 x2 m2)))))))))))))))))))))))))) : WP d 281 1068 [(0, zr 2000), (1, zr 0), (2, zr 386), (3, zi i)] [] 403 [] x m 403 [] Q := zr0 (md := fun _ => 0) (cu := [(18, [0, 1, 2, 3]), (1525, [0, 1, 2, 3])]) rfl h
set_option maxRecDepth 100000 in
theorem la_26 {d N : Nat} {i : Int} {x m : zM} {Q : Int → zM → zM → Prop} (hd : 90 ≤ d) (hNN : N ≤ 600) (hI : Inv N x m) (hi : 0 ≤ i) (hi2 : i + 4 ≤ m 2000 (-1)) (hL : m 2000 (-1) ≤ 2048) (K : ∀ x' m', Inv (N + 1) x' m' → m' 2000 = m 2000 → WP d 281 1525 [(0, zr 2000), (1, zr 0), (2, zr 386), (3, zi i)] [] 403 [] x' m' 403 [] Q) : WP d 281 1068 [(0, zr 2000), (1, zr 0), (2, zr 386), (3, zi i)] [] 403 [] x m 403 [] Q := by
  apply lr_26
  refine ⟨by unfold zIn; omega, ⟨by omega, by omega⟩, fun w1 _ e1 => ?_⟩
  subst e1
  refine ⟨by unfold zIn; omega, ⟨by omega, by omega⟩, fun w2 _ e2 => ?_⟩
  subst e2
  refine ⟨by unfold zIn; omega, ⟨by omega, by omega⟩, fun w3 _ e3 => ?_⟩
  subst e3
  refine ⟨by omega, t_runs (dM := d - 1) (by omega) (by omega) hNN hI (fun q1 x1 hok => ?_)⟩
  refine ⟨by unfold zIn; omega, ⟨by omega, by omega⟩, fun w4 _ e4 => ?_⟩
  subst e4
  refine ⟨by unfold zIn; omega, ⟨by omega, by omega⟩, fun w5 _ e5 => ?_⟩
  subst e5
  refine ⟨by unfold zIn; omega, ⟨by omega, by omega⟩, fun w6 _ e6 => ?_⟩
  subst e6
  exact ⟨by omega, hok _ (fun x2 m2 hI2 he => ⟨fun _ => K x2 m2 hI2 he, fun h => absurd rfl h⟩)⟩
set_option maxRecDepth 100000 in
theorem lr_27 {d : Nat} {i : Int} {x m : zM} {Q : Int → zM → zM → Prop} (h : (zIn (i + (1 : Int)) ∧ ((0 ≤ (i + (1 : Int)) ∧ (i + (1 : Int)) < m 2000 (-1 : Int)) ∧ (∀ w1 : Int, zIn w1 → w1 = m 2000 (i + (1 : Int)) → (1 ≤ d ∧ WPc (d - 1) 143 [zr 0, zi w1] 403 [] x m 403 [] (fun q1 x1 m1 => (zIn (i + (1 : Int)) ∧ ((0 ≤ (i + (1 : Int)) ∧ (i + (1 : Int)) < m1 2000 (-1 : Int)) ∧ (∀ w2 : Int, zIn w2 → w2 = m1 2000 (i + (1 : Int)) → (1 ≤ d ∧ WPc (d - 1) 255 [zr 386, zi w2] 403 [] x1 m1 403 [] (fun q2 x2 m2 => ((q1 = q2 → WP d 281 1525 [(0, zr 2000), (1, zr 0), (2, zr 386), (3, zi i)] [] 403 [] x2 m2 403 [] Q) ∧ (q1 ≠ q2 → (((0 : Int) = 0 ∨ (0 : Int) = 1) ∧ Q 0 x2 m2)))))))))))))) : WP d 281 1111 [(0, zr 2000), (1, zr 0), (2, zr 386), (3, zi i)] [] 403 [] x m 403 [] Q := zr0 (md := fun _ => 0) (cu := [(18, [0, 1, 2, 3]), (1525, [0, 1, 2, 3])]) rfl h
set_option maxRecDepth 100000 in
theorem la_27 {d N : Nat} {i : Int} {x m : zM} {Q : Int → zM → zM → Prop} (hd : 90 ≤ d) (hNN : N ≤ 600) (hI : Inv N x m) (hi : 0 ≤ i) (hi2 : i + 4 ≤ m 2000 (-1)) (hL : m 2000 (-1) ≤ 2048) (K : ∀ x' m', Inv (N + 1) x' m' → m' 2000 = m 2000 → WP d 281 1525 [(0, zr 2000), (1, zr 0), (2, zr 386), (3, zi i)] [] 403 [] x' m' 403 [] Q) : WP d 281 1111 [(0, zr 2000), (1, zr 0), (2, zr 386), (3, zi i)] [] 403 [] x m 403 [] Q := by
  apply lr_27
  refine ⟨by unfold zIn; omega, ⟨by omega, by omega⟩, fun w1 _ e1 => ?_⟩
  subst e1
  refine ⟨by omega, t_calm (dM := d - 1) (by omega) (by omega) hNN hI (fun q1 x1 hok => ?_)⟩
  refine ⟨by unfold zIn; omega, ⟨by omega, by omega⟩, fun w2 _ e2 => ?_⟩
  subst e2
  exact ⟨by omega, hok _ (fun x2 m2 hI2 he => ⟨fun _ => K x2 m2 hI2 he, fun h => absurd rfl h⟩)⟩
set_option maxRecDepth 100000 in
theorem lr_28 {d : Nat} {i : Int} {x m : zM} {Q : Int → zM → zM → Prop} (h : (zIn (i + (1 : Int)) ∧ ((0 ≤ (i + (1 : Int)) ∧ (i + (1 : Int)) < m 2000 (-1 : Int)) ∧ (∀ w1 : Int, zIn w1 → w1 = m 2000 (i + (1 : Int)) → (1 ≤ d ∧ WPc (d - 1) 144 [zr 0, zi w1] 403 [] x m 403 [] (fun q1 x1 m1 => (zIn (i + (1 : Int)) ∧ ((0 ≤ (i + (1 : Int)) ∧ (i + (1 : Int)) < m1 2000 (-1 : Int)) ∧ (∀ w2 : Int, zIn w2 → w2 = m1 2000 (i + (1 : Int)) → (1 ≤ d ∧ WPc (d - 1) 263 [zr 386, zi w2] 403 [] x1 m1 403 [] (fun q2 x2 m2 => ((q1 = q2 → WP d 281 1525 [(0, zr 2000), (1, zr 0), (2, zr 386), (3, zi i)] [] 403 [] x2 m2 403 [] Q) ∧ (q1 ≠ q2 → (((0 : Int) = 0 ∨ (0 : Int) = 1) ∧ Q 0 x2 m2)))))))))))))) : WP d 281 1134 [(0, zr 2000), (1, zr 0), (2, zr 386), (3, zi i)] [] 403 [] x m 403 [] Q := zr0 (md := fun _ => 0) (cu := [(18, [0, 1, 2, 3]), (1525, [0, 1, 2, 3])]) rfl h
set_option maxRecDepth 100000 in
theorem la_28 {d N : Nat} {i : Int} {x m : zM} {Q : Int → zM → zM → Prop} (hd : 90 ≤ d) (hNN : N ≤ 600) (hI : Inv N x m) (hi : 0 ≤ i) (hi2 : i + 4 ≤ m 2000 (-1)) (hL : m 2000 (-1) ≤ 2048) (K : ∀ x' m', Inv (N + 1) x' m' → m' 2000 = m 2000 → WP d 281 1525 [(0, zr 2000), (1, zr 0), (2, zr 386), (3, zi i)] [] 403 [] x' m' 403 [] Q) : WP d 281 1134 [(0, zr 2000), (1, zr 0), (2, zr 386), (3, zi i)] [] 403 [] x m 403 [] Q := by
  apply lr_28
  refine ⟨by unfold zIn; omega, ⟨by omega, by omega⟩, fun w1 _ e1 => ?_⟩
  subst e1
  refine ⟨by omega, t_best (dM := d - 1) (by omega) (by omega) hNN hI (fun q1 x1 hok => ?_)⟩
  refine ⟨by unfold zIn; omega, ⟨by omega, by omega⟩, fun w2 _ e2 => ?_⟩
  subst e2
  exact ⟨by omega, hok _ (fun x2 m2 hI2 he => ⟨fun _ => K x2 m2 hI2 he, fun h => absurd rfl h⟩)⟩
set_option maxRecDepth 100000 in
theorem lr_29 {d : Nat} {i : Int} {x m : zM} {Q : Int → zM → zM → Prop} (h : (1 ≤ d ∧ WPc (d - 1) 145 [zr 0] 403 [] x m 403 [] (fun q1 x1 m1 => (1 ≤ d ∧ WPc (d - 1) 264 [zr 386] 403 [] x1 m1 403 [] (fun q2 x2 m2 => ((q1 = q2 → WP d 281 1525 [(0, zr 2000), (1, zr 0), (2, zr 386), (3, zi i)] [] 403 [] x2 m2 403 [] Q) ∧ (q1 ≠ q2 → (((0 : Int) = 0 ∨ (0 : Int) = 1) ∧ Q 0 x2 m2)))))))) : WP d 281 1157 [(0, zr 2000), (1, zr 0), (2, zr 386), (3, zi i)] [] 403 [] x m 403 [] Q := zr0 (md := fun _ => 0) (cu := [(18, [0, 1, 2, 3]), (1525, [0, 1, 2, 3])]) rfl h
set_option maxRecDepth 100000 in
theorem la_29 {d N : Nat} {i : Int} {x m : zM} {Q : Int → zM → zM → Prop} (hd : 90 ≤ d) (hNN : N ≤ 600) (hI : Inv N x m) (hi : 0 ≤ i) (hi2 : i + 4 ≤ m 2000 (-1)) (hL : m 2000 (-1) ≤ 2048) (K : ∀ x' m', Inv (N + 1) x' m' → m' 2000 = m 2000 → WP d 281 1525 [(0, zr 2000), (1, zr 0), (2, zr 386), (3, zi i)] [] 403 [] x' m' 403 [] Q) : WP d 281 1157 [(0, zr 2000), (1, zr 0), (2, zr 386), (3, zi i)] [] 403 [] x m 403 [] Q := by
  apply lr_29
  refine ⟨by omega, t_judge (dM := d - 1) (by omega) (by omega) hNN hI (fun q1 x1 hok => ?_)⟩
  exact ⟨by omega, hok _ (fun x2 m2 hI2 he => ⟨fun _ => K x2 m2 hI2 he, fun h => absurd rfl h⟩)⟩
set_option maxRecDepth 100000 in
theorem lr_30 {d : Nat} {i : Int} {x m : zM} {Q : Int → zM → zM → Prop} (h : (zIn (i + (1 : Int)) ∧ ((0 ≤ (i + (1 : Int)) ∧ (i + (1 : Int)) < m 2000 (-1 : Int)) ∧ (∀ w1 : Int, zIn w1 → w1 = m 2000 (i + (1 : Int)) → (zIn (i + (2 : Int)) ∧ ((0 ≤ (i + (2 : Int)) ∧ (i + (2 : Int)) < m 2000 (-1 : Int)) ∧ (∀ w2 : Int, zIn w2 → w2 = m 2000 (i + (2 : Int)) → (1 ≤ d ∧ WPc (d - 1) 146 [zr 0, zi w1, zi w2] 403 [] x m 403 [] (fun q1 x1 m1 => (zIn (i + (1 : Int)) ∧ ((0 ≤ (i + (1 : Int)) ∧ (i + (1 : Int)) < m1 2000 (-1 : Int)) ∧ (∀ w3 : Int, zIn w3 → w3 = m1 2000 (i + (1 : Int)) → (zIn (i + (2 : Int)) ∧ ((0 ≤ (i + (2 : Int)) ∧ (i + (2 : Int)) < m1 2000 (-1 : Int)) ∧ (∀ w4 : Int, zIn w4 → w4 = m1 2000 (i + (2 : Int)) → (1 ≤ d ∧ WPc (d - 1) 266 [zr 386, zi w3, zi w4] 403 [] x1 m1 403 [] (fun q2 x2 m2 => ((q1 = q2 → WP d 281 1525 [(0, zr 2000), (1, zr 0), (2, zr 386), (3, zi i)] [] 403 [] x2 m2 403 [] Q) ∧ (q1 ≠ q2 → (((0 : Int) = 0 ∨ (0 : Int) = 1) ∧ Q 0 x2 m2)))))))))))))))))))) : WP d 281 1170 [(0, zr 2000), (1, zr 0), (2, zr 386), (3, zi i)] [] 403 [] x m 403 [] Q := zr0 (md := fun _ => 0) (cu := [(18, [0, 1, 2, 3]), (1525, [0, 1, 2, 3])]) rfl h
set_option maxRecDepth 100000 in
theorem la_30 {d N : Nat} {i : Int} {x m : zM} {Q : Int → zM → zM → Prop} (hd : 90 ≤ d) (hNN : N ≤ 600) (hI : Inv N x m) (hi : 0 ≤ i) (hi2 : i + 4 ≤ m 2000 (-1)) (hL : m 2000 (-1) ≤ 2048) (K : ∀ x' m', Inv (N + 1) x' m' → m' 2000 = m 2000 → WP d 281 1525 [(0, zr 2000), (1, zr 0), (2, zr 386), (3, zi i)] [] 403 [] x' m' 403 [] Q) : WP d 281 1170 [(0, zr 2000), (1, zr 0), (2, zr 386), (3, zi i)] [] 403 [] x m 403 [] Q := by
  apply lr_30
  refine ⟨by unfold zIn; omega, ⟨by omega, by omega⟩, fun w1 _ e1 => ?_⟩
  subst e1
  refine ⟨by unfold zIn; omega, ⟨by omega, by omega⟩, fun w2 _ e2 => ?_⟩
  subst e2
  refine ⟨by omega, t_fall (dM := d - 1) (by omega) (by omega) hNN hI (fun q1 x1 hok => ?_)⟩
  refine ⟨by unfold zIn; omega, ⟨by omega, by omega⟩, fun w3 _ e3 => ?_⟩
  subst e3
  refine ⟨by unfold zIn; omega, ⟨by omega, by omega⟩, fun w4 _ e4 => ?_⟩
  subst e4
  exact ⟨by omega, hok _ (fun x2 m2 hI2 he => ⟨fun _ => K x2 m2 hI2 he, fun h => absurd rfl h⟩)⟩
set_option maxRecDepth 100000 in
theorem lr_31 {d : Nat} {i : Int} {x m : zM} {Q : Int → zM → zM → Prop} (h : (zIn (i + (1 : Int)) ∧ ((0 ≤ (i + (1 : Int)) ∧ (i + (1 : Int)) < m 2000 (-1 : Int)) ∧ (∀ w1 : Int, zIn w1 → w1 = m 2000 (i + (1 : Int)) → (1 ≤ d ∧ WPc (d - 1) 147 [zr 0, zi w1] 403 [] x m 403 [] (fun q1 x1 m1 => (zIn (i + (1 : Int)) ∧ ((0 ≤ (i + (1 : Int)) ∧ (i + (1 : Int)) < m1 2000 (-1 : Int)) ∧ (∀ w2 : Int, zIn w2 → w2 = m1 2000 (i + (1 : Int)) → (1 ≤ d ∧ WPc (d - 1) 267 [zr 386, zi w2] 403 [] x1 m1 403 [] (fun q2 x2 m2 => ((q1 = q2 → WP d 281 1525 [(0, zr 2000), (1, zr 0), (2, zr 386), (3, zi i)] [] 403 [] x2 m2 403 [] Q) ∧ (q1 ≠ q2 → (((0 : Int) = 0 ∨ (0 : Int) = 1) ∧ Q 0 x2 m2)))))))))))))) : WP d 281 1203 [(0, zr 2000), (1, zr 0), (2, zr 386), (3, zi i)] [] 403 [] x m 403 [] Q := zr0 (md := fun _ => 0) (cu := [(18, [0, 1, 2, 3]), (1525, [0, 1, 2, 3])]) rfl h
set_option maxRecDepth 100000 in
theorem la_31 {d N : Nat} {i : Int} {x m : zM} {Q : Int → zM → zM → Prop} (hd : 90 ≤ d) (hNN : N ≤ 600) (hI : Inv N x m) (hi : 0 ≤ i) (hi2 : i + 4 ≤ m 2000 (-1)) (hL : m 2000 (-1) ≤ 2048) (K : ∀ x' m', Inv (N + 1) x' m' → m' 2000 = m 2000 → WP d 281 1525 [(0, zr 2000), (1, zr 0), (2, zr 386), (3, zi i)] [] 403 [] x' m' 403 [] Q) : WP d 281 1203 [(0, zr 2000), (1, zr 0), (2, zr 386), (3, zi i)] [] 403 [] x m 403 [] Q := by
  apply lr_31
  refine ⟨by unfold zIn; omega, ⟨by omega, by omega⟩, fun w1 _ e1 => ?_⟩
  subst e1
  refine ⟨by omega, t_duty (dM := d - 1) (by omega) (by omega) hNN hI (fun q1 x1 hok => ?_)⟩
  refine ⟨by unfold zIn; omega, ⟨by omega, by omega⟩, fun w2 _ e2 => ?_⟩
  subst e2
  exact ⟨by omega, hok _ (fun x2 m2 hI2 he => ⟨fun _ => K x2 m2 hI2 he, fun h => absurd rfl h⟩)⟩
set_option maxRecDepth 100000 in
theorem lr_32 {d : Nat} {i : Int} {x m : zM} {Q : Int → zM → zM → Prop} (h : (zIn (i + (1 : Int)) ∧ ((0 ≤ (i + (1 : Int)) ∧ (i + (1 : Int)) < m 2000 (-1 : Int)) ∧ (∀ w1 : Int, zIn w1 → w1 = m 2000 (i + (1 : Int)) → (1 ≤ d ∧ WPc (d - 1) 148 [zr 0, zi w1] 403 [] x m 403 [] (fun q1 x1 m1 => (zIn (i + (1 : Int)) ∧ ((0 ≤ (i + (1 : Int)) ∧ (i + (1 : Int)) < m1 2000 (-1 : Int)) ∧ (∀ w2 : Int, zIn w2 → w2 = m1 2000 (i + (1 : Int)) → (1 ≤ d ∧ WPc (d - 1) 268 [zr 386, zi w2] 403 [] x1 m1 403 [] (fun q2 x2 m2 => ((q1 = q2 → WP d 281 1525 [(0, zr 2000), (1, zr 0), (2, zr 386), (3, zi i)] [] 403 [] x2 m2 403 [] Q) ∧ (q1 ≠ q2 → (((0 : Int) = 0 ∨ (0 : Int) = 1) ∧ Q 0 x2 m2)))))))))))))) : WP d 281 1226 [(0, zr 2000), (1, zr 0), (2, zr 386), (3, zi i)] [] 403 [] x m 403 [] Q := zr0 (md := fun _ => 0) (cu := [(18, [0, 1, 2, 3]), (1525, [0, 1, 2, 3])]) rfl h
set_option maxRecDepth 100000 in
theorem la_32 {d N : Nat} {i : Int} {x m : zM} {Q : Int → zM → zM → Prop} (hd : 90 ≤ d) (hNN : N ≤ 600) (hI : Inv N x m) (hi : 0 ≤ i) (hi2 : i + 4 ≤ m 2000 (-1)) (hL : m 2000 (-1) ≤ 2048) (K : ∀ x' m', Inv (N + 1) x' m' → m' 2000 = m 2000 → WP d 281 1525 [(0, zr 2000), (1, zr 0), (2, zr 386), (3, zi i)] [] 403 [] x' m' 403 [] Q) : WP d 281 1226 [(0, zr 2000), (1, zr 0), (2, zr 386), (3, zi i)] [] 403 [] x m 403 [] Q := by
  apply lr_32
  refine ⟨by unfold zIn; omega, ⟨by omega, by omega⟩, fun w1 _ e1 => ?_⟩
  subst e1
  refine ⟨by omega, t_counted (dM := d - 1) (by omega) (by omega) hNN hI (fun q1 x1 hok => ?_)⟩
  refine ⟨by unfold zIn; omega, ⟨by omega, by omega⟩, fun w2 _ e2 => ?_⟩
  subst e2
  exact ⟨by omega, hok _ (fun x2 m2 hI2 he => ⟨fun _ => K x2 m2 hI2 he, fun h => absurd rfl h⟩)⟩
set_option maxRecDepth 100000 in
theorem lr_33 {d : Nat} {i : Int} {x m : zM} {Q : Int → zM → zM → Prop} (h : (1 ≤ d ∧ WPc (d - 1) 149 [zr 0] 403 [] x m 403 [] (fun q1 x1 m1 => (1 ≤ d ∧ WPc (d - 1) 269 [zr 386] 403 [] x1 m1 403 [] (fun q2 x2 m2 => ((q1 = q2 → WP d 281 1525 [(0, zr 2000), (1, zr 0), (2, zr 386), (3, zi i)] [] 403 [] x2 m2 403 [] Q) ∧ (q1 ≠ q2 → (((0 : Int) = 0 ∨ (0 : Int) = 1) ∧ Q 0 x2 m2)))))))) : WP d 281 1249 [(0, zr 2000), (1, zr 0), (2, zr 386), (3, zi i)] [] 403 [] x m 403 [] Q := zr0 (md := fun _ => 0) (cu := [(18, [0, 1, 2, 3]), (1525, [0, 1, 2, 3])]) rfl h
set_option maxRecDepth 100000 in
theorem la_33 {d N : Nat} {i : Int} {x m : zM} {Q : Int → zM → zM → Prop} (hd : 90 ≤ d) (hNN : N ≤ 600) (hI : Inv N x m) (hi : 0 ≤ i) (hi2 : i + 4 ≤ m 2000 (-1)) (hL : m 2000 (-1) ≤ 2048) (K : ∀ x' m', Inv (N + 1) x' m' → m' 2000 = m 2000 → WP d 281 1525 [(0, zr 2000), (1, zr 0), (2, zr 386), (3, zi i)] [] 403 [] x' m' 403 [] Q) : WP d 281 1249 [(0, zr 2000), (1, zr 0), (2, zr 386), (3, zi i)] [] 403 [] x m 403 [] Q := by
  apply lr_33
  refine ⟨by omega, t_suspects (dM := d - 1) (by omega) (by omega) hNN hI (fun q1 x1 hok => ?_)⟩
  exact ⟨by omega, hok _ (fun x2 m2 hI2 he => ⟨fun _ => K x2 m2 hI2 he, fun h => absurd rfl h⟩)⟩
set_option maxRecDepth 100000 in
theorem lr_34 {d : Nat} {i : Int} {x m : zM} {Q : Int → zM → zM → Prop} (h : (zIn (i + (1 : Int)) ∧ ((0 ≤ (i + (1 : Int)) ∧ (i + (1 : Int)) < m 2000 (-1 : Int)) ∧ (∀ w1 : Int, zIn w1 → w1 = m 2000 (i + (1 : Int)) → (zIn (i + (2 : Int)) ∧ ((0 ≤ (i + (2 : Int)) ∧ (i + (2 : Int)) < m 2000 (-1 : Int)) ∧ (∀ w2 : Int, zIn w2 → w2 = m 2000 (i + (2 : Int)) → (zIn (i + (3 : Int)) ∧ ((0 ≤ (i + (3 : Int)) ∧ (i + (3 : Int)) < m 2000 (-1 : Int)) ∧ (∀ w3 : Int, zIn w3 → w3 = m 2000 (i + (3 : Int)) → (1 ≤ d ∧ WPc (d - 1) 150 [zr 0, zi w1, zi w2, zi w3] 403 [] x m 403 [] (fun q1 x1 m1 => (zIn (i + (1 : Int)) ∧ ((0 ≤ (i + (1 : Int)) ∧ (i + (1 : Int)) < m1 2000 (-1 : Int)) ∧ (∀ w4 : Int, zIn w4 → w4 = m1 2000 (i + (1 : Int)) → (zIn (i + (2 : Int)) ∧ ((0 ≤ (i + (2 : Int)) ∧ (i + (2 : Int)) < m1 2000 (-1 : Int)) ∧ (∀ w5 : Int, zIn w5 → w5 = m1 2000 (i + (2 : Int)) → (zIn (i + (3 : Int)) ∧ ((0 ≤ (i + (3 : Int)) ∧ (i + (3 : Int)) < m1 2000 (-1 : Int)) ∧ (∀ w6 : Int, zIn w6 → w6 = m1 2000 (i + (3 : Int)) → (1 ≤ d ∧ WPc (d - 1) 270 [zr 386, zi w4, zi w5, zi w6] 403 [] x1 m1 403 [] (fun q2 x2 m2 => ((q1 = q2 → WP d 281 1525 [(0, zr 2000), (1, zr 0), (2, zr 386), (3, zi i)] [] 403 [] x2 m2 403 [] Q) ∧ (q1 ≠ q2 → (((0 : Int) = 0 ∨ (0 : Int) = 1) ∧ Q 0 x2 m2)))))))))))))))))))))))))) : WP d 281 1262 [(0, zr 2000), (1, zr 0), (2, zr 386), (3, zi i)] [] 403 [] x m 403 [] Q := zr0 (md := fun _ => 0) (cu := [(18, [0, 1, 2, 3]), (1525, [0, 1, 2, 3])]) rfl h
set_option maxRecDepth 100000 in
theorem la_34 {d N : Nat} {i : Int} {x m : zM} {Q : Int → zM → zM → Prop} (hd : 90 ≤ d) (hNN : N ≤ 600) (hI : Inv N x m) (hi : 0 ≤ i) (hi2 : i + 4 ≤ m 2000 (-1)) (hL : m 2000 (-1) ≤ 2048) (K : ∀ x' m', Inv (N + 1) x' m' → m' 2000 = m 2000 → WP d 281 1525 [(0, zr 2000), (1, zr 0), (2, zr 386), (3, zi i)] [] 403 [] x' m' 403 [] Q) : WP d 281 1262 [(0, zr 2000), (1, zr 0), (2, zr 386), (3, zi i)] [] 403 [] x m 403 [] Q := by
  apply lr_34
  refine ⟨by unfold zIn; omega, ⟨by omega, by omega⟩, fun w1 _ e1 => ?_⟩
  subst e1
  refine ⟨by unfold zIn; omega, ⟨by omega, by omega⟩, fun w2 _ e2 => ?_⟩
  subst e2
  refine ⟨by unfold zIn; omega, ⟨by omega, by omega⟩, fun w3 _ e3 => ?_⟩
  subst e3
  refine ⟨by omega, t_book (dM := d - 1) (by omega) (by omega) hNN hI (fun q1 x1 hok => ?_)⟩
  refine ⟨by unfold zIn; omega, ⟨by omega, by omega⟩, fun w4 _ e4 => ?_⟩
  subst e4
  refine ⟨by unfold zIn; omega, ⟨by omega, by omega⟩, fun w5 _ e5 => ?_⟩
  subst e5
  refine ⟨by unfold zIn; omega, ⟨by omega, by omega⟩, fun w6 _ e6 => ?_⟩
  subst e6
  exact ⟨by omega, hok _ (fun x2 m2 hI2 he => ⟨fun _ => K x2 m2 hI2 he, fun h => absurd rfl h⟩)⟩
set_option maxRecDepth 100000 in
theorem lr_35 {d : Nat} {i : Int} {x m : zM} {Q : Int → zM → zM → Prop} (h : (1 ≤ d ∧ WPc (d - 1) 151 [zr 0] 403 [] x m 403 [] (fun q1 x1 m1 => (1 ≤ d ∧ WPc (d - 1) 271 [zr 386] 403 [] x1 m1 403 [] (fun q2 x2 m2 => ((q1 = q2 → WP d 281 1525 [(0, zr 2000), (1, zr 0), (2, zr 386), (3, zi i)] [] 403 [] x2 m2 403 [] Q) ∧ (q1 ≠ q2 → (((0 : Int) = 0 ∨ (0 : Int) = 1) ∧ Q 0 x2 m2)))))))) : WP d 281 1305 [(0, zr 2000), (1, zr 0), (2, zr 386), (3, zi i)] [] 403 [] x m 403 [] Q := zr0 (md := fun _ => 0) (cu := [(18, [0, 1, 2, 3]), (1525, [0, 1, 2, 3])]) rfl h
set_option maxRecDepth 100000 in
theorem la_35 {d N : Nat} {i : Int} {x m : zM} {Q : Int → zM → zM → Prop} (hd : 90 ≤ d) (hNN : N ≤ 600) (hI : Inv N x m) (hi : 0 ≤ i) (hi2 : i + 4 ≤ m 2000 (-1)) (hL : m 2000 (-1) ≤ 2048) (K : ∀ x' m', Inv (N + 1) x' m' → m' 2000 = m 2000 → WP d 281 1525 [(0, zr 2000), (1, zr 0), (2, zr 386), (3, zi i)] [] 403 [] x' m' 403 [] Q) : WP d 281 1305 [(0, zr 2000), (1, zr 0), (2, zr 386), (3, zi i)] [] 403 [] x m 403 [] Q := by
  apply lr_35
  refine ⟨by omega, t_wrong (dM := d - 1) (by omega) (by omega) hNN hI (fun q1 x1 hok => ?_)⟩
  exact ⟨by omega, hok _ (fun x2 m2 hI2 he => ⟨fun _ => K x2 m2 hI2 he, fun h => absurd rfl h⟩)⟩
set_option maxRecDepth 100000 in
theorem lr_36 {d : Nat} {i : Int} {x m : zM} {Q : Int → zM → zM → Prop} (h : (zIn (i + (1 : Int)) ∧ ((0 ≤ (i + (1 : Int)) ∧ (i + (1 : Int)) < m 2000 (-1 : Int)) ∧ (∀ w1 : Int, zIn w1 → w1 = m 2000 (i + (1 : Int)) → (1 ≤ d ∧ WPc (d - 1) 152 [zr 0, zi w1] 403 [] x m 403 [] (fun q1 x1 m1 => (zIn (i + (1 : Int)) ∧ ((0 ≤ (i + (1 : Int)) ∧ (i + (1 : Int)) < m1 2000 (-1 : Int)) ∧ (∀ w2 : Int, zIn w2 → w2 = m1 2000 (i + (1 : Int)) → (1 ≤ d ∧ WPc (d - 1) 272 [zr 386, zi w2] 403 [] x1 m1 403 [] (fun q2 x2 m2 => ((q1 = q2 → WP d 281 1525 [(0, zr 2000), (1, zr 0), (2, zr 386), (3, zi i)] [] 403 [] x2 m2 403 [] Q) ∧ (q1 ≠ q2 → (((0 : Int) = 0 ∨ (0 : Int) = 1) ∧ Q 0 x2 m2)))))))))))))) : WP d 281 1318 [(0, zr 2000), (1, zr 0), (2, zr 386), (3, zi i)] [] 403 [] x m 403 [] Q := zr0 (md := fun _ => 0) (cu := [(18, [0, 1, 2, 3]), (1525, [0, 1, 2, 3])]) rfl h
set_option maxRecDepth 100000 in
theorem la_36 {d N : Nat} {i : Int} {x m : zM} {Q : Int → zM → zM → Prop} (hd : 90 ≤ d) (hNN : N ≤ 600) (hI : Inv N x m) (hi : 0 ≤ i) (hi2 : i + 4 ≤ m 2000 (-1)) (hL : m 2000 (-1) ≤ 2048) (K : ∀ x' m', Inv (N + 1) x' m' → m' 2000 = m 2000 → WP d 281 1525 [(0, zr 2000), (1, zr 0), (2, zr 386), (3, zi i)] [] 403 [] x' m' 403 [] Q) : WP d 281 1318 [(0, zr 2000), (1, zr 0), (2, zr 386), (3, zi i)] [] 403 [] x m 403 [] Q := by
  apply lr_36
  refine ⟨by unfold zIn; omega, ⟨by omega, by omega⟩, fun w1 _ e1 => ?_⟩
  subst e1
  refine ⟨by omega, t_count (dM := d - 1) (by omega) (by omega) hNN hI (fun q1 x1 hok => ?_)⟩
  refine ⟨by unfold zIn; omega, ⟨by omega, by omega⟩, fun w2 _ e2 => ?_⟩
  subst e2
  exact ⟨by omega, hok _ (fun x2 m2 hI2 he => ⟨fun _ => K x2 m2 hI2 he, fun h => absurd rfl h⟩)⟩
set_option maxRecDepth 100000 in
theorem lr_37 {d : Nat} {i : Int} {x m : zM} {Q : Int → zM → zM → Prop} (h : (1 ≤ d ∧ WPc (d - 1) 153 [zr 0] 403 [] x m 403 [] (fun q1 x1 m1 => (1 ≤ d ∧ WPc (d - 1) 273 [zr 386] 403 [] x1 m1 403 [] (fun q2 x2 m2 => ((q1 = q2 → WP d 281 1525 [(0, zr 2000), (1, zr 0), (2, zr 386), (3, zi i)] [] 403 [] x2 m2 403 [] Q) ∧ (q1 ≠ q2 → (((0 : Int) = 0 ∨ (0 : Int) = 1) ∧ Q 0 x2 m2)))))))) : WP d 281 1341 [(0, zr 2000), (1, zr 0), (2, zr 386), (3, zi i)] [] 403 [] x m 403 [] Q := zr0 (md := fun _ => 0) (cu := [(18, [0, 1, 2, 3]), (1525, [0, 1, 2, 3])]) rfl h
set_option maxRecDepth 100000 in
theorem la_37 {d N : Nat} {i : Int} {x m : zM} {Q : Int → zM → zM → Prop} (hd : 90 ≤ d) (hNN : N ≤ 600) (hI : Inv N x m) (hi : 0 ≤ i) (hi2 : i + 4 ≤ m 2000 (-1)) (hL : m 2000 (-1) ≤ 2048) (K : ∀ x' m', Inv (N + 1) x' m' → m' 2000 = m 2000 → WP d 281 1525 [(0, zr 2000), (1, zr 0), (2, zr 386), (3, zi i)] [] 403 [] x' m' 403 [] Q) : WP d 281 1341 [(0, zr 2000), (1, zr 0), (2, zr 386), (3, zi i)] [] 403 [] x m 403 [] Q := by
  apply lr_37
  refine ⟨by omega, t_image (dM := d - 1) (by omega) (by omega) hNN hI (fun q1 x1 hok => ?_)⟩
  exact ⟨by omega, hok _ (fun x2 m2 hI2 he => ⟨fun _ => K x2 m2 hI2 he, fun h => absurd rfl h⟩)⟩
set_option maxRecDepth 100000 in
theorem lr_38 {d : Nat} {i : Int} {x m : zM} {Q : Int → zM → zM → Prop} (h : (1 ≤ d ∧ WPc (d - 1) 154 [zr 0] 403 [] x m 403 [] (fun q1 x1 m1 => (1 ≤ d ∧ WPc (d - 1) 274 [zr 386] 403 [] x1 m1 403 [] (fun q2 x2 m2 => ((q1 = q2 → WP d 281 1525 [(0, zr 2000), (1, zr 0), (2, zr 386), (3, zi i)] [] 403 [] x2 m2 403 [] Q) ∧ (q1 ≠ q2 → (((0 : Int) = 0 ∨ (0 : Int) = 1) ∧ Q 0 x2 m2)))))))) : WP d 281 1354 [(0, zr 2000), (1, zr 0), (2, zr 386), (3, zi i)] [] 403 [] x m 403 [] Q := zr0 (md := fun _ => 0) (cu := [(18, [0, 1, 2, 3]), (1525, [0, 1, 2, 3])]) rfl h
set_option maxRecDepth 100000 in
theorem la_38 {d N : Nat} {i : Int} {x m : zM} {Q : Int → zM → zM → Prop} (hd : 90 ≤ d) (hNN : N ≤ 600) (hI : Inv N x m) (hi : 0 ≤ i) (hi2 : i + 4 ≤ m 2000 (-1)) (hL : m 2000 (-1) ≤ 2048) (K : ∀ x' m', Inv (N + 1) x' m' → m' 2000 = m 2000 → WP d 281 1525 [(0, zr 2000), (1, zr 0), (2, zr 386), (3, zi i)] [] 403 [] x' m' 403 [] Q) : WP d 281 1354 [(0, zr 2000), (1, zr 0), (2, zr 386), (3, zi i)] [] 403 [] x m 403 [] Q := by
  apply lr_38
  refine ⟨by omega, t_undo (dM := d - 1) (by omega) (by omega) hNN hI (fun q1 x1 hok => ?_)⟩
  exact ⟨by omega, hok _ (fun x2 m2 hI2 he => ⟨fun _ => K x2 m2 hI2 he, fun h => absurd rfl h⟩)⟩
set_option maxRecDepth 100000 in
theorem lr_39 {d : Nat} {i : Int} {x m : zM} {Q : Int → zM → zM → Prop} (h : (zIn (i + (1 : Int)) ∧ ((0 ≤ (i + (1 : Int)) ∧ (i + (1 : Int)) < m 2000 (-1 : Int)) ∧ (∀ w1 : Int, zIn w1 → w1 = m 2000 (i + (1 : Int)) → (1 ≤ d ∧ WPc (d - 1) 155 [zr 0, zi w1] 403 [] x m 403 [] (fun q1 x1 m1 => (zIn (i + (1 : Int)) ∧ ((0 ≤ (i + (1 : Int)) ∧ (i + (1 : Int)) < m1 2000 (-1 : Int)) ∧ (∀ w2 : Int, zIn w2 → w2 = m1 2000 (i + (1 : Int)) → (1 ≤ d ∧ WPc (d - 1) 275 [zr 386, zi w2] 403 [] x1 m1 403 [] (fun q2 x2 m2 => ((q1 = q2 → WP d 281 1525 [(0, zr 2000), (1, zr 0), (2, zr 386), (3, zi i)] [] 403 [] x2 m2 403 [] Q) ∧ (q1 ≠ q2 → (((0 : Int) = 0 ∨ (0 : Int) = 1) ∧ Q 0 x2 m2)))))))))))))) : WP d 281 1367 [(0, zr 2000), (1, zr 0), (2, zr 386), (3, zi i)] [] 403 [] x m 403 [] Q := zr0 (md := fun _ => 0) (cu := [(18, [0, 1, 2, 3]), (1525, [0, 1, 2, 3])]) rfl h
set_option maxRecDepth 100000 in
theorem la_39 {d N : Nat} {i : Int} {x m : zM} {Q : Int → zM → zM → Prop} (hd : 90 ≤ d) (hNN : N ≤ 600) (hI : Inv N x m) (hi : 0 ≤ i) (hi2 : i + 4 ≤ m 2000 (-1)) (hL : m 2000 (-1) ≤ 2048) (K : ∀ x' m', Inv (N + 1) x' m' → m' 2000 = m 2000 → WP d 281 1525 [(0, zr 2000), (1, zr 0), (2, zr 386), (3, zi i)] [] 403 [] x' m' 403 [] Q) : WP d 281 1367 [(0, zr 2000), (1, zr 0), (2, zr 386), (3, zi i)] [] 403 [] x m 403 [] Q := by
  apply lr_39
  refine ⟨by unfold zIn; omega, ⟨by omega, by omega⟩, fun w1 _ e1 => ?_⟩
  subst e1
  refine ⟨by omega, t_layc (dM := d - 1) (by omega) (by omega) hNN hI (fun q1 x1 hok => ?_)⟩
  refine ⟨by unfold zIn; omega, ⟨by omega, by omega⟩, fun w2 _ e2 => ?_⟩
  subst e2
  exact ⟨by omega, hok _ (fun x2 m2 hI2 he => ⟨fun _ => K x2 m2 hI2 he, fun h => absurd rfl h⟩)⟩
set_option maxRecDepth 100000 in
theorem lr_40 {d : Nat} {i : Int} {x m : zM} {Q : Int → zM → zM → Prop} (h : (zIn (i + (1 : Int)) ∧ ((0 ≤ (i + (1 : Int)) ∧ (i + (1 : Int)) < m 2000 (-1 : Int)) ∧ (∀ w1 : Int, zIn w1 → w1 = m 2000 (i + (1 : Int)) → (zIn (i + (2 : Int)) ∧ ((0 ≤ (i + (2 : Int)) ∧ (i + (2 : Int)) < m 2000 (-1 : Int)) ∧ (∀ w2 : Int, zIn w2 → w2 = m 2000 (i + (2 : Int)) → (1 ≤ d ∧ WPc (d - 1) 156 [zr 0, zi w1, zi w2] 403 [] x m 403 [] (fun q1 x1 m1 => (zIn (i + (1 : Int)) ∧ ((0 ≤ (i + (1 : Int)) ∧ (i + (1 : Int)) < m1 2000 (-1 : Int)) ∧ (∀ w3 : Int, zIn w3 → w3 = m1 2000 (i + (1 : Int)) → (zIn (i + (2 : Int)) ∧ ((0 ≤ (i + (2 : Int)) ∧ (i + (2 : Int)) < m1 2000 (-1 : Int)) ∧ (∀ w4 : Int, zIn w4 → w4 = m1 2000 (i + (2 : Int)) → (1 ≤ d ∧ WPc (d - 1) 276 [zr 386, zi w3, zi w4] 403 [] x1 m1 403 [] (fun q2 x2 m2 => ((q1 = q2 → WP d 281 1525 [(0, zr 2000), (1, zr 0), (2, zr 386), (3, zi i)] [] 403 [] x2 m2 403 [] Q) ∧ (q1 ≠ q2 → (((0 : Int) = 0 ∨ (0 : Int) = 1) ∧ Q 0 x2 m2)))))))))))))))))))) : WP d 281 1390 [(0, zr 2000), (1, zr 0), (2, zr 386), (3, zi i)] [] 403 [] x m 403 [] Q := zr0 (md := fun _ => 0) (cu := [(18, [0, 1, 2, 3]), (1525, [0, 1, 2, 3])]) rfl h
set_option maxRecDepth 100000 in
theorem la_40 {d N : Nat} {i : Int} {x m : zM} {Q : Int → zM → zM → Prop} (hd : 90 ≤ d) (hNN : N ≤ 600) (hI : Inv N x m) (hi : 0 ≤ i) (hi2 : i + 4 ≤ m 2000 (-1)) (hL : m 2000 (-1) ≤ 2048) (K : ∀ x' m', Inv (N + 1) x' m' → m' 2000 = m 2000 → WP d 281 1525 [(0, zr 2000), (1, zr 0), (2, zr 386), (3, zi i)] [] 403 [] x' m' 403 [] Q) : WP d 281 1390 [(0, zr 2000), (1, zr 0), (2, zr 386), (3, zi i)] [] 403 [] x m 403 [] Q := by
  apply lr_40
  refine ⟨by unfold zIn; omega, ⟨by omega, by omega⟩, fun w1 _ e1 => ?_⟩
  subst e1
  refine ⟨by unfold zIn; omega, ⟨by omega, by omega⟩, fun w2 _ e2 => ?_⟩
  subst e2
  refine ⟨by omega, t_setc (dM := d - 1) (by omega) (by omega) hNN hI (fun q1 x1 hok => ?_)⟩
  refine ⟨by unfold zIn; omega, ⟨by omega, by omega⟩, fun w3 _ e3 => ?_⟩
  subst e3
  refine ⟨by unfold zIn; omega, ⟨by omega, by omega⟩, fun w4 _ e4 => ?_⟩
  subst e4
  exact ⟨by omega, hok _ (fun x2 m2 hI2 he => ⟨fun _ => K x2 m2 hI2 he, fun h => absurd rfl h⟩)⟩
set_option maxRecDepth 100000 in
theorem lr_41 {d : Nat} {i : Int} {x m : zM} {Q : Int → zM → zM → Prop} (h : (1 ≤ d ∧ WPc (d - 1) 157 [zr 0] 403 [] x m 403 [] (fun q1 x1 m1 => (1 ≤ d ∧ WPc (d - 1) 277 [zr 386] 403 [] x1 m1 403 [] (fun q2 x2 m2 => ((q1 = q2 → WP d 281 1525 [(0, zr 2000), (1, zr 0), (2, zr 386), (3, zi i)] [] 403 [] x2 m2 403 [] Q) ∧ (q1 ≠ q2 → (((0 : Int) = 0 ∨ (0 : Int) = 1) ∧ Q 0 x2 m2)))))))) : WP d 281 1423 [(0, zr 2000), (1, zr 0), (2, zr 386), (3, zi i)] [] 403 [] x m 403 [] Q := zr0 (md := fun _ => 0) (cu := [(18, [0, 1, 2, 3]), (1525, [0, 1, 2, 3])]) rfl h
set_option maxRecDepth 100000 in
theorem la_41 {d N : Nat} {i : Int} {x m : zM} {Q : Int → zM → zM → Prop} (hd : 90 ≤ d) (hNN : N ≤ 600) (hI : Inv N x m) (hi : 0 ≤ i) (hi2 : i + 4 ≤ m 2000 (-1)) (hL : m 2000 (-1) ≤ 2048) (K : ∀ x' m', Inv (N + 1) x' m' → m' 2000 = m 2000 → WP d 281 1525 [(0, zr 2000), (1, zr 0), (2, zr 386), (3, zi i)] [] 403 [] x' m' 403 [] Q) : WP d 281 1423 [(0, zr 2000), (1, zr 0), (2, zr 386), (3, zi i)] [] 403 [] x m 403 [] Q := by
  apply lr_41
  refine ⟨by omega, t_tear (dM := d - 1) (by omega) (by omega) hNN hI (fun q1 x1 hok => ?_)⟩
  exact ⟨by omega, hok _ (fun x2 m2 hI2 he => ⟨fun _ => K x2 m2 hI2 he, fun h => absurd rfl h⟩)⟩
set_option maxRecDepth 100000 in
theorem lr_42 {d : Nat} {i : Int} {x m : zM} {Q : Int → zM → zM → Prop} (h : (zIn (i + (1 : Int)) ∧ ((0 ≤ (i + (1 : Int)) ∧ (i + (1 : Int)) < m 2000 (-1 : Int)) ∧ (∀ w1 : Int, zIn w1 → w1 = m 2000 (i + (1 : Int)) → (1 ≤ d ∧ WPc (d - 1) 158 [zr 0, zi w1] 403 [] x m 403 [] (fun q1 x1 m1 => (zIn (i + (1 : Int)) ∧ ((0 ≤ (i + (1 : Int)) ∧ (i + (1 : Int)) < m1 2000 (-1 : Int)) ∧ (∀ w2 : Int, zIn w2 → w2 = m1 2000 (i + (1 : Int)) → (1 ≤ d ∧ WPc (d - 1) 278 [zr 386, zi w2] 403 [] x1 m1 403 [] (fun q2 x2 m2 => ((q1 = q2 → WP d 281 1525 [(0, zr 2000), (1, zr 0), (2, zr 386), (3, zi i)] [] 403 [] x2 m2 403 [] Q) ∧ (q1 ≠ q2 → (((0 : Int) = 0 ∨ (0 : Int) = 1) ∧ Q 0 x2 m2)))))))))))))) : WP d 281 1436 [(0, zr 2000), (1, zr 0), (2, zr 386), (3, zi i)] [] 403 [] x m 403 [] Q := zr0 (md := fun _ => 0) (cu := [(18, [0, 1, 2, 3]), (1525, [0, 1, 2, 3])]) rfl h
set_option maxRecDepth 100000 in
theorem la_42 {d N : Nat} {i : Int} {x m : zM} {Q : Int → zM → zM → Prop} (hd : 90 ≤ d) (hNN : N ≤ 600) (hI : Inv N x m) (hi : 0 ≤ i) (hi2 : i + 4 ≤ m 2000 (-1)) (hL : m 2000 (-1) ≤ 2048) (K : ∀ x' m', Inv (N + 1) x' m' → m' 2000 = m 2000 → WP d 281 1525 [(0, zr 2000), (1, zr 0), (2, zr 386), (3, zi i)] [] 403 [] x' m' 403 [] Q) : WP d 281 1436 [(0, zr 2000), (1, zr 0), (2, zr 386), (3, zi i)] [] 403 [] x m 403 [] Q := by
  apply lr_42
  refine ⟨by unfold zIn; omega, ⟨by omega, by omega⟩, fun w1 _ e1 => ?_⟩
  subst e1
  refine ⟨by omega, t_row (dM := d - 1) (by omega) (by omega) hNN hI (fun q1 x1 hok => ?_)⟩
  refine ⟨by unfold zIn; omega, ⟨by omega, by omega⟩, fun w2 _ e2 => ?_⟩
  subst e2
  exact ⟨by omega, hok _ (fun x2 m2 hI2 he => ⟨fun _ => K x2 m2 hI2 he, fun h => absurd rfl h⟩)⟩
set_option maxRecDepth 100000 in
theorem lr_43 {d : Nat} {i : Int} {x m : zM} {Q : Int → zM → zM → Prop} (h : (zIn (i + (1 : Int)) ∧ ((0 ≤ (i + (1 : Int)) ∧ (i + (1 : Int)) < m 2000 (-1 : Int)) ∧ (∀ w1 : Int, zIn w1 → w1 = m 2000 (i + (1 : Int)) → (zIn (i + (2 : Int)) ∧ ((0 ≤ (i + (2 : Int)) ∧ (i + (2 : Int)) < m 2000 (-1 : Int)) ∧ (∀ w2 : Int, zIn w2 → w2 = m 2000 (i + (2 : Int)) → (zIn (i + (3 : Int)) ∧ ((0 ≤ (i + (3 : Int)) ∧ (i + (3 : Int)) < m 2000 (-1 : Int)) ∧ (∀ w3 : Int, zIn w3 → w3 = m 2000 (i + (3 : Int)) → (1 ≤ d ∧ WPc (d - 1) 159 [zr 0, zi w1, zi w2, zi w3] 403 [] x m 403 [] (fun q1 x1 m1 => (zIn (i + (1 : Int)) ∧ ((0 ≤ (i + (1 : Int)) ∧ (i + (1 : Int)) < m1 2000 (-1 : Int)) ∧ (∀ w4 : Int, zIn w4 → w4 = m1 2000 (i + (1 : Int)) → (zIn (i + (2 : Int)) ∧ ((0 ≤ (i + (2 : Int)) ∧ (i + (2 : Int)) < m1 2000 (-1 : Int)) ∧ (∀ w5 : Int, zIn w5 → w5 = m1 2000 (i + (2 : Int)) → (zIn (i + (3 : Int)) ∧ ((0 ≤ (i + (3 : Int)) ∧ (i + (3 : Int)) < m1 2000 (-1 : Int)) ∧ (∀ w6 : Int, zIn w6 → w6 = m1 2000 (i + (3 : Int)) → (1 ≤ d ∧ WPc (d - 1) 279 [zr 386, zi w4, zi w5, zi w6] 403 [] x1 m1 403 [] (fun q2 x2 m2 => ((q1 = q2 → WP d 281 1525 [(0, zr 2000), (1, zr 0), (2, zr 386), (3, zi i)] [] 403 [] x2 m2 403 [] Q) ∧ (q1 ≠ q2 → (((0 : Int) = 0 ∨ (0 : Int) = 1) ∧ Q 0 x2 m2)))))))))))))))))))))))))) : WP d 281 1459 [(0, zr 2000), (1, zr 0), (2, zr 386), (3, zi i)] [] 403 [] x m 403 [] Q := zr0 (md := fun _ => 0) (cu := [(18, [0, 1, 2, 3]), (1525, [0, 1, 2, 3])]) rfl h
set_option maxRecDepth 100000 in
theorem la_43 {d N : Nat} {i : Int} {x m : zM} {Q : Int → zM → zM → Prop} (hd : 90 ≤ d) (hNN : N ≤ 600) (hI : Inv N x m) (hi : 0 ≤ i) (hi2 : i + 4 ≤ m 2000 (-1)) (hL : m 2000 (-1) ≤ 2048) (K : ∀ x' m', Inv (N + 1) x' m' → m' 2000 = m 2000 → WP d 281 1525 [(0, zr 2000), (1, zr 0), (2, zr 386), (3, zi i)] [] 403 [] x' m' 403 [] Q) : WP d 281 1459 [(0, zr 2000), (1, zr 0), (2, zr 386), (3, zi i)] [] 403 [] x m 403 [] Q := by
  apply lr_43
  refine ⟨by unfold zIn; omega, ⟨by omega, by omega⟩, fun w1 _ e1 => ?_⟩
  subst e1
  refine ⟨by unfold zIn; omega, ⟨by omega, by omega⟩, fun w2 _ e2 => ?_⟩
  subst e2
  refine ⟨by unfold zIn; omega, ⟨by omega, by omega⟩, fun w3 _ e3 => ?_⟩
  subst e3
  refine ⟨by omega, t_copy (dM := d - 1) (by omega) (by omega) hNN hI (fun q1 x1 hok => ?_)⟩
  refine ⟨by unfold zIn; omega, ⟨by omega, by omega⟩, fun w4 _ e4 => ?_⟩
  subst e4
  refine ⟨by unfold zIn; omega, ⟨by omega, by omega⟩, fun w5 _ e5 => ?_⟩
  subst e5
  refine ⟨by unfold zIn; omega, ⟨by omega, by omega⟩, fun w6 _ e6 => ?_⟩
  subst e6
  exact ⟨by omega, hok _ (fun x2 m2 hI2 he => ⟨fun _ => K x2 m2 hI2 he, fun h => absurd rfl h⟩)⟩
set_option maxRecDepth 100000 in
theorem lr_44 {d : Nat} {i : Int} {x m : zM} {Q : Int → zM → zM → Prop} (h : (zIn (i + (1 : Int)) ∧ ((0 ≤ (i + (1 : Int)) ∧ (i + (1 : Int)) < m 2000 (-1 : Int)) ∧ (∀ w1 : Int, zIn w1 → w1 = m 2000 (i + (1 : Int)) → (1 ≤ d ∧ WPc (d - 1) 160 [zr 0, zi w1] 403 [] x m 403 [] (fun q1 x1 m1 => (zIn (i + (1 : Int)) ∧ ((0 ≤ (i + (1 : Int)) ∧ (i + (1 : Int)) < m1 2000 (-1 : Int)) ∧ (∀ w2 : Int, zIn w2 → w2 = m1 2000 (i + (1 : Int)) → (1 ≤ d ∧ WPc (d - 1) 280 [zr 386, zi w2] 403 [] x1 m1 403 [] (fun q2 x2 m2 => ((q1 = q2 → WP d 281 1525 [(0, zr 2000), (1, zr 0), (2, zr 386), (3, zi i)] [] 403 [] x2 m2 403 [] Q) ∧ (q1 ≠ q2 → (((0 : Int) = 0 ∨ (0 : Int) = 1) ∧ Q 0 x2 m2)))))))))))))) : WP d 281 1502 [(0, zr 2000), (1, zr 0), (2, zr 386), (3, zi i)] [] 403 [] x m 403 [] Q := zr0 (md := fun _ => 0) (cu := [(18, [0, 1, 2, 3]), (1525, [0, 1, 2, 3])]) rfl h
set_option maxRecDepth 100000 in
theorem la_44 {d N : Nat} {i : Int} {x m : zM} {Q : Int → zM → zM → Prop} (hd : 90 ≤ d) (hNN : N ≤ 600) (hI : Inv N x m) (hi : 0 ≤ i) (hi2 : i + 4 ≤ m 2000 (-1)) (hL : m 2000 (-1) ≤ 2048) (K : ∀ x' m', Inv (N + 1) x' m' → m' 2000 = m 2000 → WP d 281 1525 [(0, zr 2000), (1, zr 0), (2, zr 386), (3, zi i)] [] 403 [] x' m' 403 [] Q) : WP d 281 1502 [(0, zr 2000), (1, zr 0), (2, zr 386), (3, zi i)] [] 403 [] x m 403 [] Q := by
  apply lr_44
  refine ⟨by unfold zIn; omega, ⟨by omega, by omega⟩, fun w1 _ e1 => ?_⟩
  subst e1
  refine ⟨by omega, t_status (dM := d - 1) (by omega) (by omega) hNN hI (fun q1 x1 hok => ?_)⟩
  refine ⟨by unfold zIn; omega, ⟨by omega, by omega⟩, fun w2 _ e2 => ?_⟩
  subst e2
  exact ⟨by omega, hok _ (fun x2 m2 hI2 he => ⟨fun _ => K x2 m2 hI2 he, fun h => absurd rfl h⟩)⟩
theorem law_all {d : Nat} {Q : Int → zM → zM → Prop} (hd : 90 ≤ d) (hQ : ∀ x m, Q 1 x m) : ∀ (n N : Nat) (i : Int) (x m : zM), Inv N x m → i = 4 * (N : Int) → 0 ≤ m 2000 (-1) → m 2000 (-1) ≤ 2048 → m 2000 (-1) ≤ 4 * (n : Int) + i → WP d 281 18 [(0, zr 2000), (1, zr 0), (2, zr 386), (3, zi i)] [] 403 [] x m 403 [] Q := by
  intro n
  induction n with
  | zero =>
    intro N i x m hI hi h0 h1 h2
    refine lr_head ⟨by unfold zIn; omega, fun _ => ⟨Or.inr rfl, hQ _ _⟩, fun q => absurd q (by omega)⟩
  | succ n ih =>
    intro N i x m hI hi h0 h1 h2
    refine lr_head ⟨by unfold zIn; omega, fun _ => ⟨Or.inr rfl, hQ _ _⟩, fun q => ⟨⟨by omega, by omega⟩, fun w _ _ => ?_⟩⟩
    have hNN : N ≤ 600 := by omega
    have K : ∀ x' m', Inv (N + 1) x' m' → m' 2000 = m 2000 → WP d 281 1525 [(0, zr 2000), (1, zr 0), (2, zr 386), (3, zi i)] [] 403 [] x' m' 403 [] Q := fun x' m' hI' he => lr_end ⟨by unfold zIn; omega, ih (N + 1) (i + 4) x' m' hI' (by omega) (by rw [he]; exact h0) (by rw [he]; exact h1) (by rw [he]; omega)⟩
    refine ⟨fun _ => K x m (Inv_s (zSx.rf _) (zSame.rf _) hI) rfl, fun _ => la_0 hd hNN hI (by omega) (by omega) h1 K, fun _ => la_1 hd hNN hI (by omega) (by omega) h1 K, fun _ => la_2 hd hNN hI (by omega) (by omega) h1 K, fun _ => la_3 hd hNN hI (by omega) (by omega) h1 K, fun _ => la_4 hd hNN hI (by omega) (by omega) h1 K, fun _ => la_5 hd hNN hI (by omega) (by omega) h1 K, fun _ => la_6 hd hNN hI (by omega) (by omega) h1 K, fun _ => la_7 hd hNN hI (by omega) (by omega) h1 K, fun _ => la_8 hd hNN hI (by omega) (by omega) h1 K, fun _ => la_9 hd hNN hI (by omega) (by omega) h1 K, fun _ => la_10 hd hNN hI (by omega) (by omega) h1 K, fun _ => la_11 hd hNN hI (by omega) (by omega) h1 K, fun _ => la_12 hd hNN hI (by omega) (by omega) h1 K, fun _ => la_13 hd hNN hI (by omega) (by omega) h1 K, fun _ => la_14 hd hNN hI (by omega) (by omega) h1 K, fun _ => la_15 hd hNN hI (by omega) (by omega) h1 K, fun _ => la_16 hd hNN hI (by omega) (by omega) h1 K, fun _ => la_17 hd hNN hI (by omega) (by omega) h1 K, fun _ => la_18 hd hNN hI (by omega) (by omega) h1 K, fun _ => la_19 hd hNN hI (by omega) (by omega) h1 K, fun _ => la_20 hd hNN hI (by omega) (by omega) h1 K, fun _ => la_21 hd hNN hI (by omega) (by omega) h1 K, fun _ => la_22 hd hNN hI (by omega) (by omega) h1 K, fun _ => la_23 hd hNN hI (by omega) (by omega) h1 K, fun _ => la_24 hd hNN hI (by omega) (by omega) h1 K, fun _ => la_25 hd hNN hI (by omega) (by omega) h1 K, fun _ => la_26 hd hNN hI (by omega) (by omega) h1 K, fun _ => la_27 hd hNN hI (by omega) (by omega) h1 K, fun _ => la_28 hd hNN hI (by omega) (by omega) h1 K, fun _ => la_29 hd hNN hI (by omega) (by omega) h1 K, fun _ => la_30 hd hNN hI (by omega) (by omega) h1 K, fun _ => la_31 hd hNN hI (by omega) (by omega) h1 K, fun _ => la_32 hd hNN hI (by omega) (by omega) h1 K, fun _ => la_33 hd hNN hI (by omega) (by omega) h1 K, fun _ => la_34 hd hNN hI (by omega) (by omega) h1 K, fun _ => la_35 hd hNN hI (by omega) (by omega) h1 K, fun _ => la_36 hd hNN hI (by omega) (by omega) h1 K, fun _ => la_37 hd hNN hI (by omega) (by omega) h1 K, fun _ => la_38 hd hNN hI (by omega) (by omega) h1 K, fun _ => la_39 hd hNN hI (by omega) (by omega) h1 K, fun _ => la_40 hd hNN hI (by omega) (by omega) h1 K, fun _ => la_41 hd hNN hI (by omega) (by omega) h1 K, fun _ => la_42 hd hNN hI (by omega) (by omega) h1 K, fun _ => la_43 hd hNN hI (by omega) (by omega) h1 K, fun _ => la_44 hd hNN hI (by omega) (by omega) h1 K, trivial⟩
set_option maxRecDepth 100000 in
theorem lr_start {d : Nat} {x m : zM} {Q : Int → zM → zM → Prop} (h : (1 ≤ d ∧ WPc (d - 1) 115 [zr 0] 1 [(0, 0), (0, 1), (0, 3), (0, 4), (0, 5), (0, 6), (0, 7), (0, 9)] (zzr x 0 1) m 386 [] (fun _ x1 m1 => (1 ≤ d ∧ WPc (d - 1) 170 [zr 386] 387 [(386, 0), (386, 1), (386, 2), (386, 3), (386, 4), (386, 5), (386, 7), (386, 8), (386, 11), (386, 20), (386, 21), (386, 22), (386, 24), (386, 25), (386, 26), (386, 27)] x1 (zzr m1 386 1) 403 [] (fun _ x2 m2 => WP d 281 18 [(0, zr 2000), (1, zr 0), (2, zr 386), (3, zi (0 : Int))] [] 403 [] x2 m2 403 [] Q))))) : WP d 281 0 [(0, zr 2000)] [] 0 [] x m 403 [] Q := zr0 (md := fun _ => 0) (cu := [(18, [0, 1, 2, 3]), (1525, [0, 1, 2, 3])]) rfl h
