theorem jMt_ok_0 : ((((jMt.drop 0).take 20).zip ((jMp.drop 0).take 20)).all (fun q => jRok q.1 q.2)) = true := by decide +kernel
