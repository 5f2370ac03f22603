/-! THE WALK: what must be shown for a stretch of code, worked out by program -/
abbrev zK : Type := List zI → List (Nat × zV) → List zV → Nat → List (Nat × Nat) → zM → zM → Prop
def zfind (t : Nat) : List zI → List zI
  | [] => []
  | e :: r => bif Nat.beq e.1 t then e :: r else zfind t r
def zlkp (i : Nat) : List (Nat × zV) → Option zV
  | [] => none
  | q :: r => bif Nat.beq q.1 i then some q.2 else zlkp i r
def zpk (ls : List (Nat × zV)) : List Nat → List (Nat × zV)
  | [] => []
  | i :: r => match zlkp i ls with
    | some v => (i, v) :: zpk ls r
    | none => zpk ls r
def zcu (p : Nat) : List (Nat × List Nat) → Option (List Nat)
  | [] => none
  | q :: r => bif Nat.beq q.1 p then some q.2 else zcu p r
def zuin (k j : Nat) : List (Nat × Nat) → Bool
  | [] => false
  | q :: r => (Nat.beq q.1 k && Nat.beq q.2 j) || zuin k j r
def zult (n : Nat) : List (Nat × Nat) → Bool
  | [] => true
  | q :: r => Nat.ble (q.1 + 1) n && zult n r
def zueq : List (Nat × Nat) → List (Nat × Nat) → Bool
  | [], [] => true
  | p :: r, q :: t => Nat.beq p.1 q.1 && (Nat.beq p.2 q.2 && zueq r t)
  | _, _ => false
def zudel (k j : Nat) : List (Nat × Nat) → List (Nat × Nat)
  | [] => []
  | q :: r => bif Nat.beq q.1 k && Nat.beq q.2 j then zudel k j r else q :: zudel k j r
def zcsum : List zV → Nat
  | [] => 0
  | v :: r => zcat v + zcsum r
/-- arithmetic: mode 0 shows that nothing wraps, else the number wraps -/
def zar (md : Nat) (v : Int) (k : Int → Prop) : Prop := match md with
  | 0 => zIn v ∧ k v
  | _ => k (w32 v)
def zal (md : Nat) (v : Int) (k : Int → Prop) : Prop := match md with
  | 0 => zLn v ∧ k v
  | _ => k (w64 v)
def zdv (md : Nat) (a b : Int) (k : Int → Prop) : Prop := match md with
  | 0 => (0 ≤ a ∧ 0 < b) ∧ k (a / b)
  | 1 => b ≠ 0 ∧ k (w32 (a.tdiv b))
  | _ => 0 < b ∧ k (a.tdiv b)
def zdl (md : Nat) (a b : Int) (k : Int → Prop) : Prop := match md with
  | 0 => (0 ≤ a ∧ 0 < b) ∧ k (a / b)
  | _ => b ≠ 0 ∧ k (w64 (a.tdiv b))
def zrm (md : Nat) (a b : Int) (k : Int → Prop) : Prop := match md with
  | 0 => (0 ≤ a ∧ 0 < b) ∧ k (a % b)
  | _ => b ≠ 0 ∧ k (a.tmod b)
/-- an array's place in the memory, an index's place there, its length, whether it holds longs -/
def zap : zV → Option (Nat × Nat × Bool)
  | .inr (.inr (.inl k)) => match zSh k with
    | (1, len, _, _) => some (k, len, false)
    | (2, len, _, _) => some (k, len, true)
    | _ => none
  | .inr (.inr (.inr (o, _))) => match zSh o with
    | (3, _, _, w) => some (o, w, false)
    | (4, _, _, w) => some (o, w, true)
    | _ => none
  | _ => none
def zoff : zV → Int → Int
  | .inr (.inr (.inr (o, i))), j => i * ((zSh o).2.2.2 : Int) + j
  | _, j => j
/-- a write, on the side where it falls -/
def zwr (K : zM → zM → Prop) (k : Nat) (i v : Int) (x m : zM) : Prop := bif Nat.ble k 385 then K (zupd x k i v) m else K x (zupd m k i v)
def zsw (K : Int → Prop) (v : Int) : Int → List Int → Prop
  | _, [] => True
  | lo, o :: r => (v = lo → K o) ∧ zsw K v (lo + 1) r
def zlw (K : Int → Prop) (v : Int) (dflt : Int) : List (Int × Int) → Prop
  | [] => K dflt
  | q :: r => (v = q.1 → K q.2) ∧ (v ≠ q.1 → zlw K v dflt r)
def zChr (i : Int) : Int := (zByt.getD i.toNat 0).toInt
/-- a call's answer comes back -/
def zbk (y : Nat) (r : Int) (st : List zV) (k : List zV → Prop) : Prop := match zKd y with
  | 0 => k st
  | 2 => k (zl r :: st)
  | 3 => (r = 0 ∨ r = 1) → k (zi r :: st)
  | _ => k (zi r :: st)
def zstep (md : Nat → Nat) (d y n' : Nat) (u' : List (Nat × Nat)) (Q : Int → zM → zM → Prop) (code : List zI) (K : zK) : zK := fun cs ls st n u x m =>
  match cs with
  | [] => False
  | (pc, ins, len, a, b, z) :: rest =>
    let J : Int → List zV → Prop := fun off st => K (zfind ((pc : Int) + off).toNat code) ls st n u x m
    match ins with
    | .aload_n i => match zlkp i.val ls with
      | some (.inr (.inr v)) => K rest ls (.inr (.inr v) :: st) n u x m
      | _ => False
    | .aload i => match zlkp i ls with
      | some (.inr (.inr v)) => K rest ls (.inr (.inr v) :: st) n u x m
      | _ => False
    | .iload_n i => match zlkp i.val ls with
      | some (.inl v) => K rest ls (zi v :: st) n u x m
      | _ => False
    | .iload i => match zlkp i ls with
      | some (.inl v) => K rest ls (zi v :: st) n u x m
      | _ => False
    | .lload_n i => match zlkp i.val ls with
      | some (.inr (.inl v)) => K rest ls (zl v :: st) n u x m
      | _ => False
    | .lload i => match zlkp i ls with
      | some (.inr (.inl v)) => K rest ls (zl v :: st) n u x m
      | _ => False
    | .iconst i => bif decide (-2147483648 ≤ i) && decide (i < 2147483648) then K rest ls (zi i :: st) n u x m else False
    | .bipush i => bif decide (-128 ≤ i) && decide (i < 128) then K rest ls (zi i :: st) n u x m else False
    | .sipush i => bif decide (-32768 ≤ i) && decide (i < 32768) then K rest ls (zi i :: st) n u x m else False
    | .lconst i => K rest ls (zl (i.val : Int) :: st) n u x m
    | .ldc _ => bif Nat.beq a 1 then K rest ls (zi z :: st) n u x m else K rest ls (zr 2003 :: st) n u x m
    | .ldc_w _ => K rest ls (zi z :: st) n u x m
    | .ldc2_w _ => K rest ls (zl z :: st) n u x m
    | .istore_n i => match st with
      | .inl v :: r => bif Nat.ble (i.val + 1) (zMl y) then K rest (zst1 i.val (zi v) ls) r n u x m else False
      | _ => False
    | .istore i => match st with
      | .inl v :: r => bif Nat.ble (i + 1) (zMl y) then K rest (zst1 i (zi v) ls) r n u x m else False
      | _ => False
    | .lstore_n i => match st with
      | .inr (.inl v) :: r => bif Nat.ble (i.val + 2) (zMl y) then K rest (zst2 i.val (zl v) ls) r n u x m else False
      | _ => False
    | .lstore i => match st with
      | .inr (.inl v) :: r => bif Nat.ble (i + 2) (zMl y) then K rest (zst2 i (zl v) ls) r n u x m else False
      | _ => False
    | .astore_n i => match st with
      | .inr (.inr v) :: r => bif Nat.ble (i.val + 1) (zMl y) then K rest (zst1 i.val (.inr (.inr v)) ls) r n u x m else False
      | _ => False
    | .astore i => match st with
      | .inr (.inr v) :: r => bif Nat.ble (i + 1) (zMl y) then K rest (zst1 i (.inr (.inr v)) ls) r n u x m else False
      | _ => False
    | .iinc i c => match zlkp i ls with
      | some (.inl v) => bif Nat.ble (i + 1) (zMl y) then zar (md pc) (v + c) (fun w => K rest (zst1 i (zi w) ls) st n u x m) else False
      | _ => False
    | .iadd => match st with
      | .inl w :: .inl v :: r => zar (md pc) (v + w) (fun q => K rest ls (zi q :: r) n u x m)
      | _ => False
    | .isub => match st with
      | .inl w :: .inl v :: r => zar (md pc) (v - w) (fun q => K rest ls (zi q :: r) n u x m)
      | _ => False
    | .imul => match st with
      | .inl w :: .inl v :: r => zar (md pc) (v * w) (fun q => K rest ls (zi q :: r) n u x m)
      | _ => False
    | .ineg => match st with
      | .inl v :: r => zar (md pc) (-v) (fun q => K rest ls (zi q :: r) n u x m)
      | _ => False
    | .idiv => match st with
      | .inl w :: .inl v :: r => zdv (md pc) v w (fun q => K rest ls (zi q :: r) n u x m)
      | _ => False
    | .irem => match st with
      | .inl w :: .inl v :: r => zrm (md pc) v w (fun q => K rest ls (zi q :: r) n u x m)
      | _ => False
    | .iand => match st with
      | .inl w :: .inl v :: r => K rest ls (zi (zand v w) :: r) n u x m
      | _ => False
    | .ior => match st with
      | .inl w :: .inl v :: r => K rest ls (zi (zor v w) :: r) n u x m
      | _ => False
    | .ixor => match st with
      | .inl w :: .inl v :: r => K rest ls (zi (zxor v w) :: r) n u x m
      | _ => False
    | .ishl => match st with
      | .inl w :: .inl v :: r => K rest ls (zi (zshl v w) :: r) n u x m
      | _ => False
    | .ishr => match st with
      | .inl w :: .inl v :: r => K rest ls (zi (zshr v w) :: r) n u x m
      | _ => False
    | .ladd => match st with
      | .inr (.inl w) :: .inr (.inl v) :: r => zal (md pc) (v + w) (fun q => K rest ls (zl q :: r) n u x m)
      | _ => False
    | .lsub => match st with
      | .inr (.inl w) :: .inr (.inl v) :: r => zal (md pc) (v - w) (fun q => K rest ls (zl q :: r) n u x m)
      | _ => False
    | .lmul => match st with
      | .inr (.inl w) :: .inr (.inl v) :: r => zal (md pc) (v * w) (fun q => K rest ls (zl q :: r) n u x m)
      | _ => False
    | .ldiv => match st with
      | .inr (.inl w) :: .inr (.inl v) :: r => zdl (md pc) v w (fun q => K rest ls (zl q :: r) n u x m)
      | _ => False
    | .lrem => match st with
      | .inr (.inl w) :: .inr (.inl v) :: r => zrm (md pc) v w (fun q => K rest ls (zl q :: r) n u x m)
      | _ => False
    | .lor => match st with
      | .inr (.inl w) :: .inr (.inl v) :: r => K rest ls (zl (zlor v w) :: r) n u x m
      | _ => False
    | .lshl => match st with
      | .inl w :: .inr (.inl v) :: r => K rest ls (zl (zlshl v w) :: r) n u x m
      | _ => False
    | .i2l => match st with
      | .inl v :: r => K rest ls (zl v :: r) n u x m
      | _ => False
    | .l2i => match st with
      | .inr (.inl v) :: r => zar (md pc) v (fun q => K rest ls (zi q :: r) n u x m)
      | _ => False
    | .dup => match st with
      | .inl v :: r => K rest ls (zi v :: zi v :: r) n u x m
      | .inr (.inr v) :: r => K rest ls (.inr (.inr v) :: .inr (.inr v) :: r) n u x m
      | _ => False
    | .dup2 => match st with
      | .inl v :: .inl w :: r => K rest ls (zi v :: zi w :: zi v :: zi w :: r) n u x m
      | .inl v :: .inr (.inr w) :: r => K rest ls (zi v :: .inr (.inr w) :: zi v :: .inr (.inr w) :: r) n u x m
      | _ => False
    | .pop => match st with
      | .inl _ :: r => K rest ls r n u x m
      | _ => False
    | .pop2 => match st with
      | .inr (.inl _) :: r => K rest ls r n u x m
      | _ => False
    | .goto off => bif decide (0 ≤ (pc : Int) + off) then J off st else False
    | .if_icmp c off => match st with
      | .inl w :: .inl v :: r => bif decide (0 ≤ (pc : Int) + off) then (zcmp c v w → J off r) ∧ (zcmn c v w → K rest ls r n u x m) else False
      | _ => False
    | .ifCond c off => match st with
      | .inl v :: r => bif decide (0 ≤ (pc : Int) + off) then (zcmp c v 0 → J off r) ∧ (zcmn c v 0 → K rest ls r n u x m) else False
      | _ => False
    | .lcmp => match st, rest with
      | .inr (.inl w) :: .inr (.inl v) :: r, (pc2, .ifCond c off, _, _, _, _) :: rest2 => bif decide (0 ≤ (pc2 : Int) + off) then (zcmp c v w → K (zfind ((pc2 : Int) + off).toNat code) ls r n u x m) ∧ (zcmn c v w → K rest2 ls r n u x m) else False
      | _, _ => False
    | .tableswitch dflt lo hi offs => match st with
      | .inl v :: r => bif decide ((offs.toList.length : Int) = hi - lo + 1) then (v < lo ∨ hi < v → (bif decide (0 ≤ (pc : Int) + dflt) then J dflt r else False)) ∧ zsw (fun o => bif decide (0 ≤ (pc : Int) + o) then J o r else False) v lo offs.toList else False
      | _ => False
    | .lookupswitch dflt ps => match st with
      | .inl v :: r => bif (ps.toList.zip (ps.toList.drop 1)).all (fun (a, next) => a.1 < next.1) then zlw (fun o => bif decide (0 ≤ (pc : Int) + o) then J o r else False) v dflt ps.toList else False
      | _ => False
    | .getfield _ => match st with
      | .inr (.inr (.inl k)) :: r => match zSh k with
        | (0, ci, nf, _) => bif Nat.beq ci a && (Nat.ble (b + 1) nf && Nat.ble (k + 1) n) then (match (zTy a).getD b 0 with
          | 1 => K rest ls (zl (zrd x m k b) :: r) n u x m
          | 2 => bif zuin k b u then False else K rest ls (zr ((zRf k).getD b 0) :: r) n u x m
          | 0 => K rest ls (zi (zrd x m k b) :: r) n u x m
          | 3 => K rest ls (zi (zrd x m k b) :: r) n u x m
          | _ => False) else False
        | _ => False
      | _ => False
    | .putfield _ => match st with
      | v :: .inr (.inr (.inl k)) :: r => match zSh k with
        | (0, ci, nf, _) => bif Nat.beq ci a && (Nat.ble (b + 1) nf && Nat.ble (k + 1) n) then (match (zTy a).getD b 0, v with
          | 0, .inl w => bif ((zCl a).2.1 b).2.2.2 then False else zwr (fun x m => K rest ls r n u x m) k b w x m
          | 3, .inl w => bif ((zCl a).2.1 b).2.2.2 then False else (w = 0 ∨ w = 1) ∧ zwr (fun x m => K rest ls r n u x m) k b w x m
          | 1, .inr (.inl w) => bif ((zCl a).2.1 b).2.2.2 then False else zwr (fun x m => K rest ls r n u x m) k b w x m
          | 2, .inr (.inr (.inl t)) => bif ((zCl a).2.1 b).2.2.2 && (zIs y && (Nat.beq (zOc y) a && Nat.beq ((zRf k).getD b 0) t)) then K rest ls r n (zudel k b u) x m else False
          | _, _ => False) else False
        | _ => False
      | _ => False
    | .getstatic _ => K rest ls (zr a :: st) n u x m
    | .arraylength => match st with
      | .inr (.inr (.inl k)) :: r => bif Nat.beq k 2000 then K rest ls (zi (m 2000 (-1)) :: r) n u x m else False
      | _ => False
    | .aaload => match st with
      | .inl i :: .inr (.inr (.inl o)) :: r => bif Nat.ble (o + 1) n then (match zSh o with
        | (3, _, nn, _) => (0 ≤ i ∧ i < (nn : Int)) ∧ K rest ls (zw o i :: r) n u x m
        | (4, _, nn, _) => (0 ≤ i ∧ i < (nn : Int)) ∧ K rest ls (zw o i :: r) n u x m
        | _ => False) else False
      | _ => False
    | .iaload => match st with
      | .inl i :: v :: r => match v with
        | .inr (.inr (.inl 2000)) => (0 ≤ i ∧ i < m 2000 (-1)) ∧ ∀ w, zIn w → w = m 2000 i → K rest ls (zi w :: r) n u x m
        | .inr (.inr (.inl 2001)) => (0 ≤ i ∧ i < 6) ∧ K rest ls (zi (zUi i) :: r) n u x m
        | .inr (.inr (.inl 2002)) => (0 ≤ i ∧ i < 6) ∧ K rest ls (zi (zOi i) :: r) n u x m
        | v => match zap v with
          | some (k, len, false) => (0 ≤ i ∧ i < (len : Int)) ∧ K rest ls (zi (zrd x m k (zoff v i)) :: r) n u x m
          | _ => False
      | _ => False
    | .laload => match st with
      | .inl i :: v :: r => match zap v with
        | some (k, len, true) => (0 ≤ i ∧ i < (len : Int)) ∧ K rest ls (zl (zrd x m k (zoff v i)) :: r) n u x m
        | _ => False
      | _ => False
    | .iastore => match st with
      | .inl w :: .inl i :: v :: r => match zap v with
        | some (k, len, false) => (0 ≤ i ∧ i < (len : Int)) ∧ zwr (fun x m => K rest ls r n u x m) k (zoff v i) w x m
        | _ => False
      | _ => False
    | .lastore => match st with
      | .inr (.inl w) :: .inl i :: v :: r => match zap v with
        | some (k, len, true) => (0 ≤ i ∧ i < (len : Int)) ∧ zwr (fun x m => K rest ls r n u x m) k (zoff v i) w x m
        | _ => False
      | _ => False
    | .new _ => match zSh n with
      | (0, ci, _, _) => bif Nat.beq ci a && (Nat.ble (n + 1) n' && zult n u) then (bif Nat.ble (n + 1) 386 then K rest ls (zr n :: st) (n + 1) (zun n a ++ u) (zzr x n 1) m else bif Nat.ble 386 n then K rest ls (zr n :: st) (n + 1) (zun n a ++ u) x (zzr m n 1) else False) else False
      | _ => False
    | .newarray .int => match st, zSh n with
      | .inl i :: r, (1, len, _, _) => bif Nat.ble (n + 1) n' && (Nat.ble len 100000 && zult n u) then i = (len : Int) ∧ (bif Nat.ble (n + 1) 386 then K rest ls (zr n :: r) (n + 1) u (zzr x n 1) m else bif Nat.ble 386 n then K rest ls (zr n :: r) (n + 1) u x (zzr m n 1) else False) else False
      | _, _ => False
    | .newarray .long => match st, zSh n with
      | .inl i :: r, (2, len, _, _) => bif Nat.ble (n + 1) n' && (Nat.ble len 100000 && zult n u) then i = (len : Int) ∧ (bif Nat.ble (n + 1) 386 then K rest ls (zr n :: r) (n + 1) u (zzr x n 1) m else bif Nat.ble 386 n then K rest ls (zr n :: r) (n + 1) u x (zzr m n 1) else False) else False
      | _, _ => False
    | .multianewarray _ 2 => match st, zSh n with
      | .inl j :: .inl i :: r, (k9, b9, len, w) => bif Nat.beq k9 (bif Nat.beq a 0 then 3 else 4) && (Nat.beq b9 (n + 1) && (Nat.ble (n + 1 + len) n' && (Nat.ble len 10000 && (Nat.ble w 10000 && (zult n u && (Nat.beq a 0 || Nat.beq a 1)))))) then (i = (len : Int) ∧ j = (w : Int)) ∧ (bif Nat.ble (n + (1 + len)) 386 then K rest ls (zr n :: r) (n + (1 + len)) u (zzr x n (1 + len)) m else bif Nat.ble 386 n then K rest ls (zr n :: r) (n + (1 + len)) u x (zzr m n (1 + len)) else False) else False
      | _, _ => False
    | .invokevirtual idx => match b with
      | 0 => match st.drop (zNp a) with
        | .inr (.inr (.inl k)) :: r => match zSh k with
          | (0, ci, _, _) => bif Nat.beq ci (zOc a) && (Nat.ble (k + 1) n && (Nat.ble (zcsum r) 8 && Nat.ble (zNp a) (st.take (zNp a)).length)) then 1 ≤ d ∧ WPc (d - 1) a (zr k :: (st.take (zNp a)).reverse) n u x m n u (fun q x m => zbk a q r (fun st => K rest ls st n u x m)) else False
          | _ => False
        | _ => False
      | 16 => match st with
        | .inr (.inr (.inl 2003)) :: r => bif Nat.ble (zcsum r) 4 && (Nat.beq (zOc y) 6 && Nat.beq idx 99) then 8 ≤ d ∧ K rest ls (zi 104 :: r) n u x m else False
        | _ => False
      | 17 => match st with
        | .inl i :: .inr (.inr (.inl 2003)) :: r => bif Nat.ble (zcsum r) 4 && (Nat.beq (zOc y) 6 && Nat.beq idx 103) then 8 ≤ d ∧ (0 ≤ i ∧ i < 104) ∧ K rest ls (zi (zChr i) :: r) n u x m else False
        | _ => False
      | _ => False
    | .invokestatic _ => match b with
      | 1 => bif Nat.ble (zcsum (st.drop (zNp a))) 8 && Nat.ble (zNp a) (st.take (zNp a)).length then 1 ≤ d ∧ WPc (d - 1) a (st.take (zNp a)).reverse n u x m n u (fun q x m => zbk a q (st.drop (zNp a)) (fun st => K rest ls st n u x m)) else False
      | 10 => match st with
        | .inl w :: .inl v :: r => bif Nat.ble (zcsum r) 8 then 1 ≤ d ∧ K rest ls (zi (zmx v w) :: r) n u x m else False
        | _ => False
      | 11 => match st with
        | .inl w :: .inl v :: r => bif Nat.ble (zcsum r) 8 then 1 ≤ d ∧ K rest ls (zi (zmn v w) :: r) n u x m else False
        | _ => False
      | 15 => match st with
        | .inl cnt :: .inl dp :: v2 :: .inl sp :: v1 :: r => match zap v1, zap v2 with
          | some (k1, len1, lg1), some (k2, len2, lg2) => bif Nat.ble (zcsum r) 8 && (Nat.ble k1 385 && (Nat.ble k2 385 && (Nat.beq n 403 && (lg1 == lg2)))) then 1 ≤ d ∧ (0 ≤ sp ∧ 0 ≤ dp ∧ 0 ≤ cnt ∧ sp + cnt ≤ (len1 : Int) ∧ dp + cnt ≤ (len2 : Int)) ∧ K rest ls r n u (zcpy x k1 (zoff v1 sp) k2 (zoff v2 dp) cnt) m else False
          | _, _ => False
        | _ => False
      | _ => False
    | .invokespecial _ => match b with
      | 4 => match st with
        | .inr (.inr (.inl _)) :: r => bif Nat.ble (zcsum r) 8 then 1 ≤ d ∧ K rest ls r n u x m else False
        | _ => False
      | 2 => match st.drop (zNp a) with
        | .inr (.inr (.inl k)) :: r => bif Nat.ble (k + 1) n && (Nat.ble (zcsum r) 8 && (Nat.ble (n + (zCa a).1) n' && (Nat.beq (zKd a) 0 && Nat.ble (zNp a) (st.take (zNp a)).length))) then 1 ≤ d ∧ WPc (d - 1) a (zr k :: (st.take (zNp a)).reverse) n u x m (n + (zCa a).1) (u.drop (zCa a).2) (fun _ x m => K rest ls r (n + (zCa a).1) (u.drop (zCa a).2) x m) else False
        | _ => False
      | 3 => match st.drop (zNp a) with
        | .inr (.inr (.inl k)) :: r => bif Nat.ble (k + 1) n && (Nat.ble (zcsum r) 8 && (Nat.ble (n + (zCa a).1) n' && (Nat.beq (zKd a) 0 && Nat.ble (zNp a) (st.take (zNp a)).length))) then 1 ≤ d ∧ WPc (d - 1) a (zr k :: (st.take (zNp a)).reverse) n u x m (n + (zCa a).1) (u.drop (zCa a).2) (fun _ x m => K rest ls r (n + (zCa a).1) (u.drop (zCa a).2) x m) else False
        | _ => False
      | _ => False
    | .return_ => match st with
      | [] => bif Nat.beq (zKd y) 0 && (Nat.beq n n' && zueq u u') then Q 0 x m else False
      | _ => False
    | .ireturn => match st with
      | [.inl v] => bif Nat.beq n n' && zueq u u' then (match zKd y with
        | 1 => Q v x m
        | 3 => (v = 0 ∨ v = 1) ∧ Q v x m
        | _ => False) else False
      | _ => False
    | .lreturn => match st with
      | [.inr (.inl v)] => bif Nat.beq (zKd y) 2 && (Nat.beq n n' && zueq u u') then Q v x m else False
      | _ => False
    | _ => False
def zarr (cu : List (Nat × List Nat)) (d y n' : Nat) (u' : List (Nat × Nat)) (Q : Int → zM → zM → Prop) (F : zK) : zK := fun cs ls st n u x m =>
  match cs with
  | [] => False
  | e :: r => match zcu e.1 cu with
    | some keep => WP d y e.1 (zpk ls keep) st n u x m n' u' Q
    | none => F (e :: r) ls st n u x m
def wpc (md : Nat → Nat) (cu : List (Nat × List Nat)) (d y n' : Nat) (u' : List (Nat × Nat)) (Q : Int → zM → zM → Prop) (code : List zI) : Nat → zK
  | 0 => fun _ _ _ _ _ _ _ => False
  | f + 1 => zstep md d y n' u' Q code (zarr cu d y n' u' Q (wpc md cu d y n' u' Q code f))
