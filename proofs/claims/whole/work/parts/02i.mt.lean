theorem jMt_ok_7 : ((((jMt.drop 140).take 20).zip ((jMp.drop 140).take 20)).all (fun q => jRok q.1 q.2)) = true := by decide +kernel
