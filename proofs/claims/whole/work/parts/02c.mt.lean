theorem jMt_ok_1 : ((((jMt.drop 20).take 20).zip ((jMp.drop 20).take 20)).all (fun q => jRok q.1 q.2)) = true := by decide +kernel
